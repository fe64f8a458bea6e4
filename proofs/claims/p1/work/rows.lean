section
-- ===== PART A: goes FIRST, ahead of the names: the tables' words, and 'selects' of the private methods out of them =====
/-- a private method of a class that the tables say can be made, by its rows of tables_1 -/
def lw_okq (q : MethodName × Nat) : Prop := (q.1.cls ≠ "java/lang/invoke/MethodHandle" ∧ q.1.cls ≠ "java/lang/invoke/VarHandle") ∧ Cond.instantiable q.1.cls q.2 ∈ tables_1 ∧ Cond.privateMethod q.1 ∈ tables_1 ∧ Cond.instanceMethod q.1 ∈ tables_1
theorem lw_p0 : lw_okq (⟨"ObjectMapper", "sessionAt", "(I)LObjectMapper$Session;"⟩, 4) := ⟨⟨by decide +kernel, by decide +kernel⟩, List.mem_of_getElem? (i := 25) (by decide +kernel), List.mem_of_getElem? (i := 202) (by decide +kernel), List.mem_of_getElem? (i := 203) (by decide +kernel)⟩
theorem lw_p1 : lw_okq (⟨"java/lang/Throwable", "fillInStackTrace", "(I)Ljava/lang/Throwable;"⟩, 6) := ⟨⟨by decide +kernel, by decide +kernel⟩, List.mem_of_getElem? (i := 244) (by decide +kernel), List.mem_of_getElem? (i := 242) (by decide +kernel), List.mem_of_getElem? (i := 243) (by decide +kernel)⟩
theorem lw_p2 : lw_okq (⟨"ObjectMapper", "makeEntity", "(LObjectMapper$Session;III)I"⟩, 4) := ⟨⟨by decide +kernel, by decide +kernel⟩, List.mem_of_getElem? (i := 25) (by decide +kernel), List.mem_of_getElem? (i := 293) (by decide +kernel), List.mem_of_getElem? (i := 294) (by decide +kernel)⟩
theorem lw_p3 : lw_okq (⟨"ObjectMapper", "tableOf", "(I)LObjectMapper$Table;"⟩, 4) := ⟨⟨by decide +kernel, by decide +kernel⟩, List.mem_of_getElem? (i := 25) (by decide +kernel), List.mem_of_getElem? (i := 297) (by decide +kernel), List.mem_of_getElem? (i := 298) (by decide +kernel)⟩
theorem lw_p4 : lw_okq (⟨"java/util/ArrayList", "add", "(Ljava/lang/Object;[Ljava/lang/Object;I)V"⟩, 3) := ⟨⟨by decide +kernel, by decide +kernel⟩, List.mem_of_getElem? (i := 39) (by decide +kernel), List.mem_of_getElem? (i := 317) (by decide +kernel), List.mem_of_getElem? (i := 318) (by decide +kernel)⟩
theorem lw_p5 : lw_okq (⟨"java/util/ArrayList", "grow", "()[Ljava/lang/Object;"⟩, 3) := ⟨⟨by decide +kernel, by decide +kernel⟩, List.mem_of_getElem? (i := 39) (by decide +kernel), List.mem_of_getElem? (i := 321) (by decide +kernel), List.mem_of_getElem? (i := 322) (by decide +kernel)⟩
theorem lw_p6 : lw_okq (⟨"java/util/ArrayList", "grow", "(I)[Ljava/lang/Object;"⟩, 3) := ⟨⟨by decide +kernel, by decide +kernel⟩, List.mem_of_getElem? (i := 39) (by decide +kernel), List.mem_of_getElem? (i := 325) (by decide +kernel), List.mem_of_getElem? (i := 326) (by decide +kernel)⟩
theorem lw_p7 : lw_okq (⟨"ObjectMapper$Session", "listOf", "(I)Ljava/util/ArrayList;"⟩, 3) := ⟨⟨by decide +kernel, by decide +kernel⟩, List.mem_of_getElem? (i := 121) (by decide +kernel), List.mem_of_getElem? (i := 376) (by decide +kernel), List.mem_of_getElem? (i := 377) (by decide +kernel)⟩
theorem lw_p8 : lw_okq (⟨"ObjectMapper", "loadReferring", "(LObjectMapper$Session;II)V"⟩, 4) := ⟨⟨by decide +kernel, by decide +kernel⟩, List.mem_of_getElem? (i := 25) (by decide +kernel), List.mem_of_getElem? (i := 467) (by decide +kernel), List.mem_of_getElem? (i := 468) (by decide +kernel)⟩
theorem lw_p9 : lw_okq (⟨"ObjectMapper", "removeAuthor", "(LObjectMapper$Session;I)I"⟩, 4) := ⟨⟨by decide +kernel, by decide +kernel⟩, List.mem_of_getElem? (i := 25) (by decide +kernel), List.mem_of_getElem? (i := 505) (by decide +kernel), List.mem_of_getElem? (i := 506) (by decide +kernel)⟩
theorem lw_p10 : lw_okq (⟨"ObjectMapper", "removeBook", "(LObjectMapper$Session;I)V"⟩, 4) := ⟨⟨by decide +kernel, by decide +kernel⟩, List.mem_of_getElem? (i := 25) (by decide +kernel), List.mem_of_getElem? (i := 517) (by decide +kernel), List.mem_of_getElem? (i := 518) (by decide +kernel)⟩
theorem lw_p11 : lw_okq (⟨"ObjectMapper$Flush", "clashesIn", "(I)Z"⟩, 4) := ⟨⟨by decide +kernel, by decide +kernel⟩, List.mem_of_getElem? (i := 576) (by decide +kernel), List.mem_of_getElem? (i := 599) (by decide +kernel), List.mem_of_getElem? (i := 600) (by decide +kernel)⟩
theorem lw_p12 : lw_okq (⟨"ObjectMapper$Flush", "tableFor", "(I)LObjectMapper$Table;"⟩, 4) := ⟨⟨by decide +kernel, by decide +kernel⟩, List.mem_of_getElem? (i := 576) (by decide +kernel), List.mem_of_getElem? (i := 605) (by decide +kernel), List.mem_of_getElem? (i := 606) (by decide +kernel)⟩
theorem lw_p13 : lw_okq (⟨"ObjectMapper$Flush", "leavesDanglingIn", "(I)Z"⟩, 4) := ⟨⟨by decide +kernel, by decide +kernel⟩, List.mem_of_getElem? (i := 576) (by decide +kernel), List.mem_of_getElem? (i := 619) (by decide +kernel), List.mem_of_getElem? (i := 620) (by decide +kernel)⟩
theorem lw_p14 : lw_okq (⟨"ObjectMapper$Flush", "referenceBehind", "(II)I"⟩, 4) := ⟨⟨by decide +kernel, by decide +kernel⟩, List.mem_of_getElem? (i := 576) (by decide +kernel), List.mem_of_getElem? (i := 623) (by decide +kernel), List.mem_of_getElem? (i := 624) (by decide +kernel)⟩
theorem lw_p15 : lw_okq (⟨"ObjectMapper$Flush", "isThereBehind", "(II)Z"⟩, 4) := ⟨⟨by decide +kernel, by decide +kernel⟩, List.mem_of_getElem? (i := 576) (by decide +kernel), List.mem_of_getElem? (i := 632) (by decide +kernel), List.mem_of_getElem? (i := 633) (by decide +kernel)⟩
def lw_privs_1 : List (MethodName × Nat) := [(⟨"ObjectMapper", "sessionAt", "(I)LObjectMapper$Session;"⟩, 4), (⟨"java/lang/Throwable", "fillInStackTrace", "(I)Ljava/lang/Throwable;"⟩, 6), (⟨"ObjectMapper", "makeEntity", "(LObjectMapper$Session;III)I"⟩, 4), (⟨"ObjectMapper", "tableOf", "(I)LObjectMapper$Table;"⟩, 4), (⟨"java/util/ArrayList", "add", "(Ljava/lang/Object;[Ljava/lang/Object;I)V"⟩, 3), (⟨"java/util/ArrayList", "grow", "()[Ljava/lang/Object;"⟩, 3), (⟨"java/util/ArrayList", "grow", "(I)[Ljava/lang/Object;"⟩, 3), (⟨"ObjectMapper$Session", "listOf", "(I)Ljava/util/ArrayList;"⟩, 3), (⟨"ObjectMapper", "loadReferring", "(LObjectMapper$Session;II)V"⟩, 4), (⟨"ObjectMapper", "removeAuthor", "(LObjectMapper$Session;I)I"⟩, 4), (⟨"ObjectMapper", "removeBook", "(LObjectMapper$Session;I)V"⟩, 4), (⟨"ObjectMapper$Flush", "clashesIn", "(I)Z"⟩, 4), (⟨"ObjectMapper$Flush", "tableFor", "(I)LObjectMapper$Table;"⟩, 4), (⟨"ObjectMapper$Flush", "leavesDanglingIn", "(I)Z"⟩, 4), (⟨"ObjectMapper$Flush", "referenceBehind", "(II)I"⟩, 4), (⟨"ObjectMapper$Flush", "isThereBehind", "(II)Z"⟩, 4)]
theorem lw_r1 : ∀ q ∈ lw_privs_1, lw_okq q := List.forall_mem_cons.mpr ⟨lw_p0, List.forall_mem_cons.mpr ⟨lw_p1, List.forall_mem_cons.mpr ⟨lw_p2, List.forall_mem_cons.mpr ⟨lw_p3, List.forall_mem_cons.mpr ⟨lw_p4, List.forall_mem_cons.mpr ⟨lw_p5, List.forall_mem_cons.mpr ⟨lw_p6, List.forall_mem_cons.mpr ⟨lw_p7, List.forall_mem_cons.mpr ⟨lw_p8, List.forall_mem_cons.mpr ⟨lw_p9, List.forall_mem_cons.mpr ⟨lw_p10, List.forall_mem_cons.mpr ⟨lw_p11, List.forall_mem_cons.mpr ⟨lw_p12, List.forall_mem_cons.mpr ⟨lw_p13, List.forall_mem_cons.mpr ⟨lw_p14, List.forall_mem_cons.mpr ⟨lw_p15, fun _ h => absurd h List.not_mem_nil⟩⟩⟩⟩⟩⟩⟩⟩⟩⟩⟩⟩⟩⟩⟩⟩
theorem lw_p16 : lw_okq (⟨"ObjectMapper$Flush", "insertAuthors", "()V"⟩, 4) := ⟨⟨by decide +kernel, by decide +kernel⟩, List.mem_of_getElem? (i := 576) (by decide +kernel), List.mem_of_getElem? (i := 642) (by decide +kernel), List.mem_of_getElem? (i := 643) (by decide +kernel)⟩
theorem lw_p17 : lw_okq (⟨"ObjectMapper$Flush", "insert", "(LObjectMapper$Entity;III)V"⟩, 4) := ⟨⟨by decide +kernel, by decide +kernel⟩, List.mem_of_getElem? (i := 576) (by decide +kernel), List.mem_of_getElem? (i := 646) (by decide +kernel), List.mem_of_getElem? (i := 647) (by decide +kernel)⟩
theorem lw_p18 : lw_okq (⟨"ObjectMapper$Flush", "insertBooks", "()V"⟩, 4) := ⟨⟨by decide +kernel, by decide +kernel⟩, List.mem_of_getElem? (i := 576) (by decide +kernel), List.mem_of_getElem? (i := 669) (by decide +kernel), List.mem_of_getElem? (i := 670) (by decide +kernel)⟩
theorem lw_p19 : lw_okq (⟨"ObjectMapper$Flush", "updateChanged", "(I)V"⟩, 4) := ⟨⟨by decide +kernel, by decide +kernel⟩, List.mem_of_getElem? (i := 576) (by decide +kernel), List.mem_of_getElem? (i := 673) (by decide +kernel), List.mem_of_getElem? (i := 674) (by decide +kernel)⟩
theorem lw_p20 : lw_okq (⟨"ObjectMapper$Flush", "deleteStruckOut", "(I)V"⟩, 4) := ⟨⟨by decide +kernel, by decide +kernel⟩, List.mem_of_getElem? (i := 576) (by decide +kernel), List.mem_of_getElem? (i := 681) (by decide +kernel), List.mem_of_getElem? (i := 682) (by decide +kernel)⟩
theorem lw_p21 : lw_okq (⟨"ObjectMapper", "checkedRow", "(II)LObjectMapper$Row;"⟩, 4) := ⟨⟨by decide +kernel, by decide +kernel⟩, List.mem_of_getElem? (i := 25) (by decide +kernel), List.mem_of_getElem? (i := 717) (by decide +kernel), List.mem_of_getElem? (i := 718) (by decide +kernel)⟩
theorem lw_p22 : lw_okq (⟨"ObjectMapper", "checkWrite", "(I)V"⟩, 4) := ⟨⟨by decide +kernel, by decide +kernel⟩, List.mem_of_getElem? (i := 25) (by decide +kernel), List.mem_of_getElem? (i := 743) (by decide +kernel), List.mem_of_getElem? (i := 744) (by decide +kernel)⟩
theorem lw_p23 : lw_okq (⟨"ObjectMapperModel", "holds", "(I)Z"⟩, 16) := ⟨⟨by decide +kernel, by decide +kernel⟩, List.mem_of_getElem? (i := 763) (by decide +kernel), List.mem_of_getElem? (i := 833) (by decide +kernel), List.mem_of_getElem? (i := 834) (by decide +kernel)⟩
theorem lw_p24 : lw_okq (⟨"ObjectMapperModel", "makes", "(IIII)I"⟩, 16) := ⟨⟨by decide +kernel, by decide +kernel⟩, List.mem_of_getElem? (i := 763) (by decide +kernel), List.mem_of_getElem? (i := 837) (by decide +kernel), List.mem_of_getElem? (i := 838) (by decide +kernel)⟩
theorem lw_p25 : lw_okq (⟨"ObjectMapperModel", "knows", "(III)Z"⟩, 16) := ⟨⟨by decide +kernel, by decide +kernel⟩, List.mem_of_getElem? (i := 763) (by decide +kernel), List.mem_of_getElem? (i := 848) (by decide +kernel), List.mem_of_getElem? (i := 849) (by decide +kernel)⟩
theorem lw_p26 : lw_okq (⟨"ObjectMapperModel", "isKey", "(II)Z"⟩, 16) := ⟨⟨by decide +kernel, by decide +kernel⟩, List.mem_of_getElem? (i := 763) (by decide +kernel), List.mem_of_getElem? (i := 852) (by decide +kernel), List.mem_of_getElem? (i := 853) (by decide +kernel)⟩
theorem lw_p27 : lw_okq (⟨"ObjectMapperModel", "hasRow", "(II)Z"⟩, 16) := ⟨⟨by decide +kernel, by decide +kernel⟩, List.mem_of_getElem? (i := 763) (by decide +kernel), List.mem_of_getElem? (i := 863) (by decide +kernel), List.mem_of_getElem? (i := 864) (by decide +kernel)⟩
theorem lw_p28 : lw_okq (⟨"ObjectMapperModel", "takes", "(III)V"⟩, 16) := ⟨⟨by decide +kernel, by decide +kernel⟩, List.mem_of_getElem? (i := 763) (by decide +kernel), List.mem_of_getElem? (i := 870) (by decide +kernel), List.mem_of_getElem? (i := 871) (by decide +kernel)⟩
theorem lw_p29 : lw_okq (⟨"ObjectMapperModel", "loads", "(III)V"⟩, 16) := ⟨⟨by decide +kernel, by decide +kernel⟩, List.mem_of_getElem? (i := 763) (by decide +kernel), List.mem_of_getElem? (i := 878) (by decide +kernel), List.mem_of_getElem? (i := 879) (by decide +kernel)⟩
theorem lw_p30 : lw_okq (⟨"ObjectMapperModel", "countOf", "(II)I"⟩, 16) := ⟨⟨by decide +kernel, by decide +kernel⟩, List.mem_of_getElem? (i := 763) (by decide +kernel), List.mem_of_getElem? (i := 882) (by decide +kernel), List.mem_of_getElem? (i := 883) (by decide +kernel)⟩
theorem lw_p31 : lw_okq (⟨"ObjectMapperModel", "isAsked", "(IIIZ)Z"⟩, 16) := ⟨⟨by decide +kernel, by decide +kernel⟩, List.mem_of_getElem? (i := 763) (by decide +kernel), List.mem_of_getElem? (i := 890) (by decide +kernel), List.mem_of_getElem? (i := 891) (by decide +kernel)⟩
def lw_privs_2 : List (MethodName × Nat) := [(⟨"ObjectMapper$Flush", "insertAuthors", "()V"⟩, 4), (⟨"ObjectMapper$Flush", "insert", "(LObjectMapper$Entity;III)V"⟩, 4), (⟨"ObjectMapper$Flush", "insertBooks", "()V"⟩, 4), (⟨"ObjectMapper$Flush", "updateChanged", "(I)V"⟩, 4), (⟨"ObjectMapper$Flush", "deleteStruckOut", "(I)V"⟩, 4), (⟨"ObjectMapper", "checkedRow", "(II)LObjectMapper$Row;"⟩, 4), (⟨"ObjectMapper", "checkWrite", "(I)V"⟩, 4), (⟨"ObjectMapperModel", "holds", "(I)Z"⟩, 16), (⟨"ObjectMapperModel", "makes", "(IIII)I"⟩, 16), (⟨"ObjectMapperModel", "knows", "(III)Z"⟩, 16), (⟨"ObjectMapperModel", "isKey", "(II)Z"⟩, 16), (⟨"ObjectMapperModel", "hasRow", "(II)Z"⟩, 16), (⟨"ObjectMapperModel", "takes", "(III)V"⟩, 16), (⟨"ObjectMapperModel", "loads", "(III)V"⟩, 16), (⟨"ObjectMapperModel", "countOf", "(II)I"⟩, 16), (⟨"ObjectMapperModel", "isAsked", "(IIIZ)Z"⟩, 16)]
theorem lw_r2 : ∀ q ∈ lw_privs_2, lw_okq q := List.forall_mem_cons.mpr ⟨lw_p16, List.forall_mem_cons.mpr ⟨lw_p17, List.forall_mem_cons.mpr ⟨lw_p18, List.forall_mem_cons.mpr ⟨lw_p19, List.forall_mem_cons.mpr ⟨lw_p20, List.forall_mem_cons.mpr ⟨lw_p21, List.forall_mem_cons.mpr ⟨lw_p22, List.forall_mem_cons.mpr ⟨lw_p23, List.forall_mem_cons.mpr ⟨lw_p24, List.forall_mem_cons.mpr ⟨lw_p25, List.forall_mem_cons.mpr ⟨lw_p26, List.forall_mem_cons.mpr ⟨lw_p27, List.forall_mem_cons.mpr ⟨lw_p28, List.forall_mem_cons.mpr ⟨lw_p29, List.forall_mem_cons.mpr ⟨lw_p30, List.forall_mem_cons.mpr ⟨lw_p31, fun _ h => absurd h List.not_mem_nil⟩⟩⟩⟩⟩⟩⟩⟩⟩⟩⟩⟩⟩⟩⟩⟩
theorem lw_p32 : lw_okq (⟨"ObjectMapperModel", "removesBook", "(II)V"⟩, 16) := ⟨⟨by decide +kernel, by decide +kernel⟩, List.mem_of_getElem? (i := 763) (by decide +kernel), List.mem_of_getElem? (i := 902) (by decide +kernel), List.mem_of_getElem? (i := 903) (by decide +kernel)⟩
theorem lw_p33 : lw_okq (⟨"ObjectMapperModel", "goes", "(III)V"⟩, 16) := ⟨⟨by decide +kernel, by decide +kernel⟩, List.mem_of_getElem? (i := 763) (by decide +kernel), List.mem_of_getElem? (i := 906) (by decide +kernel), List.mem_of_getElem? (i := 907) (by decide +kernel)⟩
theorem lw_p34 : lw_okq (⟨"ObjectMapperModel", "knownOf", "(I)I"⟩, 16) := ⟨⟨by decide +kernel, by decide +kernel⟩, List.mem_of_getElem? (i := 763) (by decide +kernel), List.mem_of_getElem? (i := 922) (by decide +kernel), List.mem_of_getElem? (i := 923) (by decide +kernel)⟩
theorem lw_p35 : lw_okq (⟨"ObjectMapperModel", "isDirty", "(III)Z"⟩, 16) := ⟨⟨by decide +kernel, by decide +kernel⟩, List.mem_of_getElem? (i := 763) (by decide +kernel), List.mem_of_getElem? (i := 930) (by decide +kernel), List.mem_of_getElem? (i := 931) (by decide +kernel)⟩
theorem lw_p36 : lw_okq (⟨"ObjectMapperModel", "areThere", "(I)Z"⟩, 16) := ⟨⟨by decide +kernel, by decide +kernel⟩, List.mem_of_getElem? (i := 763) (by decide +kernel), List.mem_of_getElem? (i := 938) (by decide +kernel), List.mem_of_getElem? (i := 939) (by decide +kernel)⟩
theorem lw_p37 : lw_okq (⟨"ObjectMapperModel", "isGone", "(III)Z"⟩, 16) := ⟨⟨by decide +kernel, by decide +kernel⟩, List.mem_of_getElem? (i := 763) (by decide +kernel), List.mem_of_getElem? (i := 942) (by decide +kernel), List.mem_of_getElem? (i := 943) (by decide +kernel)⟩
theorem lw_p38 : lw_okq (⟨"ObjectMapperModel", "isMade", "(III)Z"⟩, 16) := ⟨⟨by decide +kernel, by decide +kernel⟩, List.mem_of_getElem? (i := 763) (by decide +kernel), List.mem_of_getElem? (i := 946) (by decide +kernel), List.mem_of_getElem? (i := 947) (by decide +kernel)⟩
theorem lw_p39 : lw_okq (⟨"ObjectMapperModel", "areWhole", "(I)Z"⟩, 16) := ⟨⟨by decide +kernel, by decide +kernel⟩, List.mem_of_getElem? (i := 763) (by decide +kernel), List.mem_of_getElem? (i := 950) (by decide +kernel), List.mem_of_getElem? (i := 951) (by decide +kernel)⟩
theorem lw_p40 : lw_okq (⟨"ObjectMapperModel", "inserts", "(III)V"⟩, 16) := ⟨⟨by decide +kernel, by decide +kernel⟩, List.mem_of_getElem? (i := 763) (by decide +kernel), List.mem_of_getElem? (i := 954) (by decide +kernel), List.mem_of_getElem? (i := 955) (by decide +kernel)⟩
theorem lw_p41 : lw_okq (⟨"ObjectMapperModel", "notes", "(III)V"⟩, 16) := ⟨⟨by decide +kernel, by decide +kernel⟩, List.mem_of_getElem? (i := 763) (by decide +kernel), List.mem_of_getElem? (i := 958) (by decide +kernel), List.mem_of_getElem? (i := 959) (by decide +kernel)⟩
theorem lw_p42 : lw_okq (⟨"ObjectMapperModel", "updates", "(III)V"⟩, 16) := ⟨⟨by decide +kernel, by decide +kernel⟩, List.mem_of_getElem? (i := 763) (by decide +kernel), List.mem_of_getElem? (i := 962) (by decide +kernel), List.mem_of_getElem? (i := 963) (by decide +kernel)⟩
theorem lw_p43 : lw_okq (⟨"ObjectMapperModel", "isRowAsked", "(II)Z"⟩, 16) := ⟨⟨by decide +kernel, by decide +kernel⟩, List.mem_of_getElem? (i := 763) (by decide +kernel), List.mem_of_getElem? (i := 978) (by decide +kernel), List.mem_of_getElem? (i := 979) (by decide +kernel)⟩
theorem lw_p44 : lw_okq (⟨"ObjectMapperModel", "isWrite", "(I)Z"⟩, 16) := ⟨⟨by decide +kernel, by decide +kernel⟩, List.mem_of_getElem? (i := 763) (by decide +kernel), List.mem_of_getElem? (i := 998) (by decide +kernel), List.mem_of_getElem? (i := 999) (by decide +kernel)⟩
def lw_privs_3 : List (MethodName × Nat) := [(⟨"ObjectMapperModel", "removesBook", "(II)V"⟩, 16), (⟨"ObjectMapperModel", "goes", "(III)V"⟩, 16), (⟨"ObjectMapperModel", "knownOf", "(I)I"⟩, 16), (⟨"ObjectMapperModel", "isDirty", "(III)Z"⟩, 16), (⟨"ObjectMapperModel", "areThere", "(I)Z"⟩, 16), (⟨"ObjectMapperModel", "isGone", "(III)Z"⟩, 16), (⟨"ObjectMapperModel", "isMade", "(III)Z"⟩, 16), (⟨"ObjectMapperModel", "areWhole", "(I)Z"⟩, 16), (⟨"ObjectMapperModel", "inserts", "(III)V"⟩, 16), (⟨"ObjectMapperModel", "notes", "(III)V"⟩, 16), (⟨"ObjectMapperModel", "updates", "(III)V"⟩, 16), (⟨"ObjectMapperModel", "isRowAsked", "(II)Z"⟩, 16), (⟨"ObjectMapperModel", "isWrite", "(I)Z"⟩, 16)]
theorem lw_r3 : ∀ q ∈ lw_privs_3, lw_okq q := List.forall_mem_cons.mpr ⟨lw_p32, List.forall_mem_cons.mpr ⟨lw_p33, List.forall_mem_cons.mpr ⟨lw_p34, List.forall_mem_cons.mpr ⟨lw_p35, List.forall_mem_cons.mpr ⟨lw_p36, List.forall_mem_cons.mpr ⟨lw_p37, List.forall_mem_cons.mpr ⟨lw_p38, List.forall_mem_cons.mpr ⟨lw_p39, List.forall_mem_cons.mpr ⟨lw_p40, List.forall_mem_cons.mpr ⟨lw_p41, List.forall_mem_cons.mpr ⟨lw_p42, List.forall_mem_cons.mpr ⟨lw_p43, List.forall_mem_cons.mpr ⟨lw_p44, fun _ h => absurd h List.not_mem_nil⟩⟩⟩⟩⟩⟩⟩⟩⟩⟩⟩⟩⟩
def lw_privs : List (MethodName × Nat) := lw_privs_1 ++ (lw_privs_2 ++ (lw_privs_3))
def lw_tbl : List Cond := k2_sels lw_privs ++ tables_1
theorem lw_privs_ok : ∀ q ∈ lw_privs, lw_okq q := by
  show ∀ q ∈ lw_privs_1 ++ (lw_privs_2 ++ (lw_privs_3)), lw_okq q
  exact List.forall_mem_append.mpr ⟨lw_r1, List.forall_mem_append.mpr ⟨lw_r2, lw_r3⟩⟩
-- ===== end of PART A; then your names; then what follows =====
end
section
/-! ===== BEGIN words of one list among another's, by their places ===== -/
theorem goodIn_r {big : List Cond} (ws : List Cond) (ps : List Nat) (hp : ws = ps.filterMap (fun i => big[i]?)) (h : ws.all goodWord = true) : GoodIn big ws := by
  intro w hw
  have h1 := List.all_eq_true.mp h w hw
  rw [hp] at hw
  obtain ⟨i, -, hi⟩ := List.mem_filterMap.mp hw
  have hm : w ∈ big := by first | exact List.mem_of_getElem? hi | exact List.getElem?_mem hi
  exact ⟨hm, good_of_word h1⟩
theorem goodIn_app {big a b : List Cond} (ha : GoodIn big a) (hb : GoodIn big b) : GoodIn big (a ++ b) := fun w h => (List.mem_append.mp h).elim (ha w) (hb w)
theorem goodIn_ca {big a b : List Cond} {c : Cond} (ha : GoodIn big (c :: a)) (hb : GoodIn big b) : GoodIn big (c :: (a ++ b)) := fun w h => (List.mem_cons.mp h).elim (fun e => ha w (List.mem_cons.mpr (Or.inl e))) (fun h => (List.mem_append.mp h).elim (fun h => ha w (List.mem_cons.mpr (Or.inr h))) (hb w))
theorem goodIn_sub {big ws : List Cond} (hm : ∀ w ∈ ws, w ∈ big) (h : ws.all goodWord = true) : GoodIn big ws := fun w hw => ⟨hm w hw, good_of_word (List.all_eq_true.mp h w hw)⟩
/-! ===== END ===== -/

/-! ===== BEGIN exceptions that leave a method, and their catching by the caller (launches without stack traces) ===== -/
section VXA
/-! The laws vx_back, vx_callV, vx_callS, vx_callSW, vx_throw0, vx_throwS follow proofs of the library, with one case more: JvmDerived/Free/Laws.lean (Back.of_free), Shelf42/LK1.lean (callV, callS), Shelf/KitTraced.lean (throwNew0V, throwNewS). -/
/-- where a method has thrown q: the class by its name, the cell, what was written, the world -/
def vx_T (XC : String → State → State → Prop) (st : State) (q : Addr) (t : State) (mc ms : Nat) (free : Addr → Prop) : Prop :=
  ∃ (E : String) (ce : Cell) (L : List Loc), XC E st t ∧ t.heap[q]? = some ce ∧ ce.vm = .none ∧ st.vm.findClass E = some ce.cls ∧ st.WarmedH t.vm ∧ st.sameButNew ({ t with vm := st.vm } : State) L mc ms ∧ ∀ z ∈ L, free z.base
def vx_Q (Qc : Array Value → State → Outcome → State → Prop) (XC : String → State → State → Prop) (mc ms : Nat) (free : Addr → Prop) : Array Value → State → Outcome → State → Prop := fun a st o t =>
  (Qc a st o t ∧ ∃ L, FrameEnd st o t L mc ms ∧ ∀ q ∈ L, free q.base) ∨ ∃ q, o = .threw q ∧ vx_T XC st q t mc ms free
/-- a callee that returns or throws -/
def vx_Met (l : Launch) (y : MethodName) (ws : List Cond) (rm : Room) (Pc : Array Value → State → Prop) (Qc : Array Value → State → Outcome → State → Prop) (XC : String → State → State → Prop) (mc ms : Nat) (free : Addr → Prop) : Prop :=
  MetFree l y (headSpec ws rm) Pc (fun _ _ _ _ _ => True) (vx_Q Qc XC mc ms free)
def vx_Post (XC : String → State → State → Prop) (mc ms : Nat) (free : Addr → Prop) : Pt → Array Value → Addr → Pt → Prop := fun A a q B =>
  ∃ (g : JFrame) (mk : MethodId) (t : State) (L : List Loc) (E : String) (ce : Cell), B.U.heap = t.heap ∧ B.U.vm = t.vm ∧ XC E (A.U.calling g mk a) t ∧ t.heap[q]? = some ce ∧ ce.vm = .none ∧ A.U.vm.findClass E = some ce.cls ∧ B.locs = A.locs ++ L ∧ (∀ z ∈ L, free z.base) ∧ B.cells = A.cells + mc ∧ B.slots = A.slots + ms
def vx_Back (l : Launch) (R : Room) (p : Program) (e : Env) (below : List Frame) (s : State) (sargs : Array Value) (y : MethodName) (len W9 : Nat)
    (Pre : Pt → Array Value → Prop) (Post : Pt → Array Value → Option Value → Pt → Prop) (PostX : Pt → Array Value → Addr → Pt → Prop) : Prop :=
  ∀ (m : MethodId) (meth : Method) (c : Code) (A : Pt) (g : JFrame) (ig : Instr) (mk : MethodId) (a : Array Value),
    Stand p l e R s m sargs below meth c A.U A.locs A.cells A.slots → g.method = m → g.locals.size = c.maxLocals → decode c.code g.pc = .ok (ig, len) →
    2 * g.monitorRoom + (g.stack.map fun v => v.category).sum ≤ W9 → A.U.methodNamed? y = some mk → Pre A a →
    (∃ (v : Option Value) (B : Pt), Stand p l e R s m sargs below meth c B.U B.locs B.cells B.slots ∧ Post A a v B ∧
      Steps p.tables e below (doInvoke e (A.U.setTop g) [] mk a).1 (B.U.setTop { g with pc := g.pc + len, stack := v.toList ++ g.stack })) ∨
    (∃ (q : Addr) (B : Pt), Stand p l e R s m sargs below meth c B.U B.locs B.cells B.slots ∧ PostX A a q B ∧
      Steps p.tables e below (doInvoke e (A.U.setTop g) [] mk a).1 ((B.U.setTop g).pushFrame (.throwing q)))
section Payer
variable {l : Launch} {R : Room} {p : Program} {e : Env} {below : List Frame} {s : State} {sargs : Array Value} {y : MethodName} {len W9 : Nat}
theorem vx_back {ws : List Cond} {rm : Room} {Pc : Array Value → State → Prop} {Qc : Array Value → State → Outcome → State → Prop} {XC : String → State → State → Prop} {mc ms : Nat} {free : Addr → Prop} {bytes : ByteArray} {maxL : Nat} {ret : Option FieldType}
    (hM : vx_Met l y ws rm Pc Qc XC mc ms free) (hblind : FrameBlind Pc) (hrc : rm.cells = mc) (hrs : rm.slots = ms)
    (hframes : rm.frames + 1 ≤ R.frames) (hlocals : W9 + (maxL + 11) + rm.locals ≤ R.locals)
    (hws : ∀ w ∈ ws, ∀ a' U, s.WarmedH U.vm → w.before a' U = true) (hcode : Cond.code y bytes maxL ret ∈ ws) (hinit : ∀ a' U, s.WarmedH U.vm → (Cond.initialized y.cls).before a' U = true) :
    vx_Back l R p e below s sargs y len W9 (PreOf R mc ms Pc) (PostOf Qc mc ms free) (vx_Post XC mc ms free) := by
  intro m meth c A g ig mk a X hg hsize hdg hW hn hp
  have h1 : (headSpec ws rm).pre.before a A.U = true := atoms_intro fun w hw => hws w hw _ _ X.warmed
  have h2 : (Cond.code y bytes maxL ret).before a A.U = true := hws _ hcode _ _ X.warmed
  have h3 : (Cond.initialized y.cls).before a A.U = true := hinit _ _ X.warmed
  have h4 : A.cells + (headSpec ws rm).room.cells ≤ R.cells := by rw [show (headSpec ws rm).room.cells = mc from hrc]; exact hp.1
  have h5 : A.slots + (headSpec ws rm).room.slots ≤ R.slots := by rw [show (headSpec ws rm).room.slots = ms from hrs]; exact hp.2.1
  have hPc : Pc a (A.U.calling g mk a) := hblind _ _ _ _ hp.2.2
  obtain ⟨U, Ls, c0, s0⟩ := A
  dsimp only [Pt.U, Pt.locs, Pt.cells, Pt.slots] at h1 h2 h3 h4 h5 X hn hPc ⊢
  obtain ⟨methY, cY, hmY, hcY, -, hlY, -, -, -, -⟩ := Cond.code_spec hn h2
  obtain ⟨kY, hkY, -⟩ := className_of_methodNamed hn
  have hinitY : kY.init = .initialized := Cond.initialized_spec (findClass_of_methodNamed hn) hkY h3
  have h : At U g.method c below := by rw [hg]; exact X.here
  have hlocals9 : W9 + (maxL + 11) + (headSpec ws rm).room.locals ≤ R.locals := hlocals
  have happ : (headSpec ws rm).appliesLoose y e.platform (U.calling g mk a) = true :=
    Spec.appliesLoose_calling (g := g) h hdg hn hkY hinitY
      (X.room_calling (g := g) (R' := (headSpec ws rm).room) hsize hmY hcY hframes (by rw [hlY]; omega) h4 h5) h1
  obtain ⟨mid, hmid⟩ := h.above
  have hfr : (U.setTop g).frames = (.java g :: mid) ++ below := by rw [State.frames_setTop' g h.top, hmid]; rfl
  obtain ⟨o, s₂, hsteps, -, hend, hq⟩ := Steps.callFree hM p X.admits X.cas X.clock (acts := []) hfr happ hPc trivial
  have hq' : vx_Q Qc XC mc ms free a (U.calling g mk a) o s₂ := hq
  rw [State.frames_setTop' g h.top] at hend
  obtain ⟨g₀, hg0⟩ := Option.isSome_iff_exists.mp h.top
  obtain ⟨r, hr⟩ := State.topJava?_eq_some.mp hg0
  have hr' : (({ U with heap := s₂.heap, slotsUsed := s₂.slotsUsed } : State).setVm s₂.vm).frames = .java g₀ :: r := hr
  rcases hq' with ⟨hqc, L, hfe, hL⟩ | ⟨q, rfl, E, ce, L, hx, hce, hcv, hcl, hW₂, hsm, hL⟩
  · obtain ⟨⟨v, rfl⟩, hW₂, e2, q2, q3, q4, q5, q6⟩ := id hfe
    have e3 : s₂ = ({ (U.calling g mk a).setFrames s₂.frames with heap := s₂.heap, slotsUsed := s₂.slotsUsed } : State).setVm s₂.vm := by
      have : s₂ = ({ s₂ with vm := (U.calling g mk a).vm } : State).setVm s₂.vm := rfl
      rw [e2] at this
      exact this
    obtain ⟨c₂, i₂, len₂, hc₂, hd₂, hf₂⟩ := hend
    have hW' : U.WarmedH s₂.vm := hW₂
    have hcc : c₂ = c := by
      have h1 : s₂.code? g.method = U.code? g.method := by
        rw [State.code?_eq, State.code?_eq, hW'.alike.method?]
      exact Option.some.inj (hc₂.symm.trans (h1.trans h.code))
    subst hcc
    have hlen : len₂ = len := by rw [hdg] at hd₂; cases hd₂; rfl
    subst hlen
    have hs₂ : s₂ = (({ U with heap := s₂.heap, slotsUsed := s₂.slotsUsed } : State).setVm s₂.vm).setTop { g with pc := g.pc + len₂, stack := v.toList ++ g.stack } := by
      refine e3.trans ?_
      rw [hf₂, State.calling_eq h.top, State.setFrames_setFrames, State.setTop_of_frames _ hr', hr]
      rfl
    have hsame : U.sameButNew ({ U with heap := s₂.heap, slotsUsed := s₂.slotsUsed } : State) L mc ms := by
      refine ⟨?_, q2, q3, q4, q5, q6⟩
      obtain ⟨t, ht, -⟩ := State.frames_cons hr
      show ({ U with heap := s₂.heap, slotsUsed := s₂.slotsUsed } : State) = { U.setFrames U.frames with heap := s₂.heap, slotsUsed := s₂.slotsUsed }
      rw [State.setFrames_self ht]
    subst hg
    refine Or.inl ⟨v, ⟨(({ U with heap := s₂.heap, slotsUsed := s₂.slotsUsed } : State).setVm s₂.vm), Ls ++ L, c0 + mc, s0 + ms⟩,
      ⟨X.admits, X.cas, X.clock, X.frames, X.room, X.hears, X.method, X.code, (X.here.setHeapUsed s₂.heap s₂.slotsUsed).setVm hW'.alike, X.tail, State.WarmedH.trans X.warmed hW', X.limits, X.bytes, X.same.trans (hsame.setVm s.vm)⟩,
      ⟨g, mk, s₂, L, rfl, rfl, hqc, rfl, hL, rfl, rfl⟩, ?_⟩
    show Steps p.tables e below _ ((({ U with heap := s₂.heap, slotsUsed := s₂.slotsUsed } : State).setVm s₂.vm).setTop { g with pc := g.pc + len₂, stack := v.toList ++ g.stack })
    rw [← hs₂]
    exact hsteps
  · obtain ⟨e2, q2, q3, q4, q5, q6⟩ := id hsm
    have e3 : s₂ = ({ (U.calling g mk a).setFrames s₂.frames with heap := s₂.heap, slotsUsed := s₂.slotsUsed } : State).setVm s₂.vm := by
      have : s₂ = ({ s₂ with vm := (U.calling g mk a).vm } : State).setVm s₂.vm := rfl
      rw [e2] at this
      exact this
    have hf₂ : s₂.frames = .throwing q :: .java g :: U.frames.tail := hend
    have hW' : U.WarmedH s₂.vm := hW₂
    have hs₂ : s₂ = ((({ U with heap := s₂.heap, slotsUsed := s₂.slotsUsed } : State).setVm s₂.vm).setTop g).pushFrame (.throwing q) := by
      refine e3.trans ?_
      rw [hf₂, State.calling_eq h.top, State.setFrames_setFrames, State.pushFrame, State.frames_setTop _ hr', State.setTop_of_frames _ hr', State.setFrames_setFrames, hr]
      rfl
    have hsame : U.sameButNew ({ U with heap := s₂.heap, slotsUsed := s₂.slotsUsed } : State) L mc ms := by
      refine ⟨?_, q2, q3, q4, q5, q6⟩
      obtain ⟨t, ht, -⟩ := State.frames_cons hr
      show ({ U with heap := s₂.heap, slotsUsed := s₂.slotsUsed } : State) = { U.setFrames U.frames with heap := s₂.heap, slotsUsed := s₂.slotsUsed }
      rw [State.setFrames_self ht]
    subst hg
    refine Or.inr ⟨q, ⟨(({ U with heap := s₂.heap, slotsUsed := s₂.slotsUsed } : State).setVm s₂.vm), Ls ++ L, c0 + mc, s0 + ms⟩,
      ⟨X.admits, X.cas, X.clock, X.frames, X.room, X.hears, X.method, X.code, (X.here.setHeapUsed s₂.heap s₂.slotsUsed).setVm hW'.alike, X.tail, State.WarmedH.trans X.warmed hW', X.limits, X.bytes, X.same.trans (hsame.setVm s.vm)⟩,
      ⟨g, mk, s₂, L, E, ce, rfl, rfl, hx, hce, hcv, hcl, rfl, hL, rfl, rfl⟩, ?_⟩
    show Steps p.tables e below _ (((({ U with heap := s₂.heap, slotsUsed := s₂.slotsUsed } : State).setVm s₂.vm).setTop g).pushFrame (.throwing q))
    rw [← hs₂]
    exact hsteps
end Payer
section Calls
variable {p : Program} {l : Launch} {e : Env} {R : Room} {s : State} {m : MethodId} {args : Array Value} {below : List Frame} {meth : Method} {c : Code} {T : State} {locs : List Loc} {cells slots : Nat}
theorem vx_callV (X : Stand p l e R s m args below meth c T locs cells slots) (hexec : p.tables.exec = Jvm.exec) {own C : String} {index : Nat} {y : MethodName} {bytes : ByteArray} {maxL : Nat} {ret : Option FieldType}
    (hown : s.vm.findClass own = some m.cls) (hlink : (Cond.methodLink own index y).before args s = true) (hinst : (Cond.instanceMethod y).before args s = true) (hsel : (Cond.selects C y y).before args s = true)
    (hcode : (Cond.code y bytes maxL ret).before args s = true) (hy : y.cls ≠ "java/lang/invoke/MethodHandle" ∧ y.cls ≠ "java/lang/invoke/VarHandle")
    {W9 : Nat} {Pre : Pt → Array Value → Prop} {Post : Pt → Array Value → Option Value → Pt → Prop} {PostX : Pt → Array Value → Addr → Pt → Prop} (hK : vx_Back l R p e below s args y 3 W9 Pre Post PostX)
    {b : Addr} {cellB : Cell} (hcell : T.heap[b]? = some cellB) (hobj : cellB.vm.isStatics = false) (hcls : s.vm.findClass C = some cellB.cls)
    {g : JFrame} (hg : g.method = m) (hsize : g.locals.size = c.maxLocals) {argsL rest : List Value} (hlen : ∀ sig, parseMethodDescriptor y.desc = some sig → argsL.length = sig.parameters.length)
    (hstack : g.stack = argsL.reverse ++ .ref b :: rest) (hW : 2 * g.monitorRoom + (rest.map fun v => v.category).sum ≤ W9) (hdg : decode c.code g.pc = .ok (.invokevirtual index, 3))
    (hpre : ∀ vm₁, s.WarmedH vm₁ → Pre ⟨T.setVm vm₁, locs, cells, slots⟩ (Value.ref b :: argsL).toArray) :
    (∃ (v : Option Value) (vm₁ : Vm) (B : Pt), s.WarmedH vm₁ ∧ Stand p l e R s m args below meth c B.U B.locs B.cells B.slots ∧ Post ⟨T.setVm vm₁, locs, cells, slots⟩ (Value.ref b :: argsL).toArray v B ∧
      ∀ target, Steps p.tables e below (B.U.setTop { g with pc := g.pc + 3, stack := v.toList ++ rest }) target → Steps p.tables e below (T.setTop g) target) ∨
    (∃ (q : Addr) (vm₁ : Vm) (B : Pt), s.WarmedH vm₁ ∧ Stand p l e R s m args below meth c B.U B.locs B.cells B.slots ∧ PostX ⟨T.setVm vm₁, locs, cells, slots⟩ (Value.ref b :: argsL).toArray q B ∧
      Steps p.tables e below (T.setTop g) ((B.U.setTop { g with stack := rest }).pushFrame (.throwing q))) := by
  obtain ⟨mk, methM, hnamed, hmethM, hstM, habM⟩ := Cond.instanceMethod_spec hinst
  obtain ⟨methM', cM, hmethM', -, -, -, -, -, -, hsigM⟩ := Cond.code_spec hnamed hcode
  cases hmethM.symm.trans hmethM'
  obtain ⟨c2, r2, m2, q1, q2, q3, q4, kP, hkP, hkPi⟩ := Cond.selects_spec hsel
  cases hcls.symm.trans q1
  cases (State.methodFound?_of_named hnamed hy).symm.trans q2
  cases hnamed.symm.trans q3
  have hselP : selectMethod e.platform s.vm cellB.cls mk = .method mk := by rw [Launch.admits_selectMethod X.admits]; exact q4
  obtain ⟨vm₁, X₁, hstep₁⟩ := X.invokevirtual hexec hown hlink hnamed hmethM hstM hkP hkPi hy (a := b) (cell := cellB) hcell
    (fun z h => by rw [h] at hobj; cases hobj) hselP hmethM habM hkP hkPi (g := g) hg (argsL := argsL) (rest := rest) (hlen _ hsigM) hstack hdg
  rcases hK m meth c ⟨T.setVm vm₁, locs, cells, slots⟩ { g with stack := rest } (.invokevirtual index) mk (Value.ref b :: argsL).toArray X₁ hg hsize hdg hW (X₁.named hnamed) (hpre vm₁ X₁.warmed) with ⟨v, B, X', hpost, hsteps⟩ | ⟨q, B, X', hpost, hsteps⟩
  · exact Or.inl ⟨v, vm₁, B, X₁.warmed, X', hpost, fun target h => hstep₁ _ fun acts => by rw [doInvoke_state]; exact hsteps.trans h⟩
  · exact Or.inr ⟨q, vm₁, B, X₁.warmed, X', hpost, hstep₁ _ fun acts => by rw [doInvoke_state]; exact hsteps⟩
theorem vx_callS (X : Stand p l e R s m args below meth c T locs cells slots) (hexec : p.tables.exec = Jvm.exec) {own : String} {index : Nat} {y : MethodName} {bytes : ByteArray} {maxL : Nat} {ret : Option FieldType}
    (hown : s.vm.findClass own = some m.cls) (hlink : (Cond.methodLink own index y).before args s = true) (hstat : (Cond.static y).before args s = true) (hinit : (Cond.initialized y.cls).before args s = true)
    (hcode : (Cond.code y bytes maxL ret).before args s = true) (hy : y.cls ≠ "java/lang/invoke/MethodHandle" ∧ y.cls ≠ "java/lang/invoke/VarHandle")
    {W9 : Nat} {Pre : Pt → Array Value → Prop} {Post : Pt → Array Value → Option Value → Pt → Prop} {PostX : Pt → Array Value → Addr → Pt → Prop} (hK : vx_Back l R p e below s args y 3 W9 Pre Post PostX)
    {g : JFrame} (hg : g.method = m) (hsize : g.locals.size = c.maxLocals) {argsL rest : List Value} (hlen : ∀ sig, parseMethodDescriptor y.desc = some sig → argsL.length = sig.parameters.length)
    (hstack : g.stack = argsL.reverse ++ rest) (hW : 2 * g.monitorRoom + (rest.map fun v => v.category).sum ≤ W9) (hdg : decode c.code g.pc = .ok (.invokestatic index, 3))
    (hpre : ∀ vm₁, s.WarmedH vm₁ → Pre ⟨T.setVm vm₁, locs, cells, slots⟩ argsL.toArray) :
    (∃ (v : Option Value) (vm₁ : Vm) (B : Pt), s.WarmedH vm₁ ∧ Stand p l e R s m args below meth c B.U B.locs B.cells B.slots ∧ Post ⟨T.setVm vm₁, locs, cells, slots⟩ argsL.toArray v B ∧
      ∀ target, Steps p.tables e below (B.U.setTop { g with pc := g.pc + 3, stack := v.toList ++ rest }) target → Steps p.tables e below (T.setTop g) target) ∨
    (∃ (q : Addr) (vm₁ : Vm) (B : Pt), s.WarmedH vm₁ ∧ Stand p l e R s m args below meth c B.U B.locs B.cells B.slots ∧ PostX ⟨T.setVm vm₁, locs, cells, slots⟩ argsL.toArray q B ∧
      Steps p.tables e below (T.setTop g) ((B.U.setTop { g with stack := rest }).pushFrame (.throwing q))) := by
  obtain ⟨mk, hnamed⟩ := Cond.code_named hcode
  obtain ⟨methM, cM, hmethM, -, -, -, -, -, -, hsigM⟩ := Cond.code_spec hnamed hcode
  have hstatic : methM.isStatic = true := Cond.static_spec hnamed hmethM hstat
  obtain ⟨kP, hkP, -⟩ := className_of_methodNamed hnamed
  have hinitP : kP.init = .initialized := Cond.initialized_spec (findClass_of_methodNamed hnamed) hkP hinit
  obtain ⟨vm₁, X₁, hstep₁⟩ := X.invokestatic hexec hown hlink hnamed hmethM hstatic hkP hinitP hy (g := g) hg (argsL := argsL) (rest := rest) (hlen _ hsigM) hstack hdg
  rcases hK m meth c ⟨T.setVm vm₁, locs, cells, slots⟩ { g with stack := rest } (.invokestatic index) mk argsL.toArray X₁ hg hsize hdg hW (X₁.named hnamed) (hpre vm₁ X₁.warmed) with ⟨v, B, X', hpost, hsteps⟩ | ⟨q, B, X', hpost, hsteps⟩
  · exact Or.inl ⟨v, vm₁, B, X₁.warmed, X', hpost, fun target h => hstep₁ _ fun acts => by rw [doInvoke_state]; exact hsteps.trans h⟩
  · exact Or.inr ⟨q, vm₁, B, X₁.warmed, X', hpost, hstep₁ _ fun acts => by rw [doInvoke_state]; exact hsteps⟩
end Calls
theorem vx_cls {s : State} {T : State} {vm₁ : Vm} {E : String} {k : ClassId} (hW : s.WarmedH vm₁) (h : (T.setVm vm₁).vm.findClass E = some k) : s.vm.findClass E = some k := by
  have h1 : vm₁.findClass E = some k := h
  rw [hW.alike.findClass] at h1
  exact h1
/-- the method's frame g, with q thrown over it -/
def vx_W (p : Program) (l : Launch) (e : Env) (R : Room) (s : State) (m : MethodId) (args : Array Value) (below : List Frame) (meth : Method) (c : Code) (H : Heap) (locs : List Loc) (cells slots : Nat) (Q : State → Prop) (g : JFrame) (q : Addr) : Prop :=
  ∀ T : State, T.heap = H → Stand p l e R s m args below meth c T locs cells slots → ∃ t, Steps p.tables e below ((T.setTop g).pushFrame (.throwing q)) t ∧ Q t
def vx_Run (p : Program) (l : Launch) (e : Env) (R : Room) (s : State) (m : MethodId) (args : Array Value) (below : List Frame) (meth : Method) (c : Code) (H : Heap) (locs : List Loc) (cells slots mc ms : Nat) (g : JFrame) (rest : List Value) (Qa : State → Outcome → State → Prop) (XC : String → State → State → Prop) (free : Addr → Prop) : Prop :=
  ∀ T : State, T.heap = H → Stand p l e R s m args below meth c T locs cells slots →
    (∃ (v : Option Value) (st₀ t T' : State) (L : List Loc), st₀.heap = H ∧ Stand p l e R s m args below meth c T' (locs ++ L) (cells + mc) (slots + ms) ∧ (∀ q ∈ L, free q.base) ∧ T'.heap = t.heap ∧ T'.vm = t.vm ∧ Qa st₀ (.returned v) t ∧
      Goes p e below T g T' { g with pc := g.pc + 3, stack := v.toList ++ rest }) ∨
    (∃ (q : Addr) (st₀ t T' : State) (L : List Loc) (E : String) (ce : Cell), st₀.heap = H ∧ Stand p l e R s m args below meth c T' (locs ++ L) (cells + mc) (slots + ms) ∧ (∀ z ∈ L, free z.base) ∧ T'.heap = t.heap ∧ T'.vm = t.vm ∧ XC E st₀ t ∧ t.heap[q]? = some ce ∧ ce.vm = .none ∧ s.vm.findClass E = some ce.cls ∧
      Steps p.tables e below (T.setTop g) ((T'.setTop { g with stack := rest }).pushFrame (.throwing q)))
def vx_X {S : Type} (px : S → Prop) (B : String → S → State → Prop) (A : Nat → Prop) : String → State → State → Prop := fun E st t => ∃ u : S, px u ∧ B E u t ∧ va_F A st t
section Runs
variable {p : Program} {l : Launch} {e : Env} {R : Room} {s : State} {m : MethodId} {args : Array Value} {below : List Frame} {meth : Method} {c : Code} {H : Heap} {locs : List Loc} {cells slots : Nat}
variable {y : MethodName} {bytes cc : ByteArray} {maxL nL mc ms n index : Nat} {ret : Option FieldType} {ws : List Cond} {rm : Room} {Pc : Array Value → State → Prop} {Qc : Array Value → State → Outcome → State → Prop} {XC : String → State → State → Prop} {free : Addr → Prop} {Ts : List Cond} {own C : String} {b : Addr} {As rest : List Value} {g : JFrame}
theorem vx_callBack (cb : CallB R s args own index y bytes maxL ret ws rm mc ms n) (hM : vx_Met l y ws rm Pc Qc XC mc ms free) (hbl : FrameBlind Pc) : vx_Back l R p e below s args y 3 8 (PreOf R mc ms Pc) (PostOf Qc mc ms free) (vx_Post XC mc ms free) := by
  obtain ⟨hrc, hrs, hfr, hlo, hws, hcw, -, hini, -⟩ := cb
  exact vx_back (bytes := bytes) (maxL := maxL) (ret := ret) hM hbl hrc hrs hfr hlo hws hcw (fun a' U hW => word_at hW (Or.inl (by first | rfl | simp [Cond.onTables, Cond.keeps, Cond.steady])) hini)
theorem vx_runV (S : CallFix p m c cc nL s args Ts own) (hM : vx_Met l y ws rm Pc Qc XC mc ms free) (cw : CallW R s args own C index y bytes maxL ret ws rm mc ms n) (hp : PreV s H C b Pc As)
    (hg : g.method = m) (hn : As.length = n) (hsize : g.locals.size = nL) (hstack : g.stack = As.reverse ++ .ref b :: rest) (hW : 2 * g.monitorRoom + (rest.map fun v => v.category).sum ≤ 8) (hdg : decode cc g.pc = .ok (.invokevirtual index, 3)) (hf : cells + mc ≤ R.cells ∧ slots + ms ≤ R.slots) :
    vx_Run p l e R s m args below meth c H locs cells slots mc ms g rest (Qc (Value.ref b :: As).toArray) XC free := by
  have hK : vx_Back l R p e below s args y 3 8 (PreOf R mc ms Pc) (PostOf Qc mc ms free) (vx_Post XC mc ms free) := vx_callBack cw.1 hM hp.1
  obtain ⟨⟨-, -, -, -, -, -, hcode, -, hy, hlen, hl⟩, hin, hse⟩ := cw
  obtain ⟨hx, hb, hml, ho, -⟩ := S
  obtain ⟨-, ⟨cellB, hcB, hoB, hclB⟩, hPc⟩ := hp
  intro T hT X
  rcases vx_callV X hx (C := C) (bytes := bytes) (maxL := maxL) (ret := ret) ho hl hin hse hcode hy hK (by rw [hT]; exact hcB) hoB hclB hg (hsize.trans hml.symm) (argsL := As) (rest := rest) (fun sig h => hn.trans (hlen sig h)) hstack hW (by rw [hb]; exact hdg)
    (fun vm₁ hW₁ => ⟨hf.1, hf.2, hPc (T.setVm vm₁) hT hW₁⟩) with ⟨v, vm₁, ⟨U', l2, c2, s2⟩, hW₁, X', ⟨g', mk, t, L, e1, e2, hq, h1, hL, h2, h3⟩, st⟩ | ⟨q, vm₁, ⟨U', l2, c2, s2⟩, hW₁, X', ⟨g', mk, t, L, E, ce, e1, e2, hq, hce, hcv, hcl, h1, hL, h2, h3⟩, st⟩
  · dsimp only [Pt.U, Pt.locs, Pt.cells, Pt.slots] at X' e1 e2 h1 h2 h3 st
    subst h1; subst h2; subst h3
    exact Or.inl ⟨v, (T.setVm vm₁).calling g' mk (Value.ref b :: As).toArray, t, U', L, hT, X', hL, e1, e2, hq, st⟩
  · dsimp only [Pt.U, Pt.locs, Pt.cells, Pt.slots] at X' e1 e2 h1 h2 h3 st hcl
    subst h1; subst h2; subst h3
    exact Or.inr ⟨q, (T.setVm vm₁).calling g' mk (Value.ref b :: As).toArray, t, U', L, E, ce, hT, X', hL, e1, e2, hq, hce, hcv, vx_cls hW₁ hcl, st⟩
theorem vx_runS (S : CallFix p m c cc nL s args Ts own) (hM : vx_Met l y ws rm Pc Qc XC mc ms free) (cw : CallB R s args own index y bytes maxL ret ws rm mc ms n ∧ (Cond.static y).before args s = true) (hp : PreS s H Pc As)
    (hg : g.method = m) (hn : As.length = n) (hsize : g.locals.size = nL) (hstack : g.stack = As.reverse ++ rest) (hW : 2 * g.monitorRoom + (rest.map fun v => v.category).sum ≤ 8) (hdg : decode cc g.pc = .ok (.invokestatic index, 3)) (hf : cells + mc ≤ R.cells ∧ slots + ms ≤ R.slots) :
    vx_Run p l e R s m args below meth c H locs cells slots mc ms g rest (Qc As.toArray) XC free := by
  have hK : vx_Back l R p e below s args y 3 8 (PreOf R mc ms Pc) (PostOf Qc mc ms free) (vx_Post XC mc ms free) := vx_callBack cw.1 hM hp.1
  obtain ⟨⟨-, -, -, -, -, -, hcode, hini, hy, hlen, hl⟩, hstt⟩ := cw
  obtain ⟨hx, hb, hml, ho, -⟩ := S
  intro T hT X
  rcases vx_callS X hx (bytes := bytes) (maxL := maxL) (ret := ret) ho hl hstt hini hcode hy hK hg (hsize.trans hml.symm) (argsL := As) (rest := rest) (fun sig h => hn.trans (hlen sig h)) hstack hW (by rw [hb]; exact hdg)
    (fun vm₁ hW₁ => ⟨hf.1, hf.2, hp.2 (T.setVm vm₁) hT hW₁⟩) with ⟨v, vm₁, ⟨U', l2, c2, s2⟩, hW₁, X', ⟨g', mk, t, L, e1, e2, hq, h1, hL, h2, h3⟩, st⟩ | ⟨q, vm₁, ⟨U', l2, c2, s2⟩, hW₁, X', ⟨g', mk, t, L, E, ce, e1, e2, hq, hce, hcv, hcl, h1, hL, h2, h3⟩, st⟩
  · dsimp only [Pt.U, Pt.locs, Pt.cells, Pt.slots] at X' e1 e2 h1 h2 h3 st
    subst h1; subst h2; subst h3
    exact Or.inl ⟨v, (T.setVm vm₁).calling g' mk As.toArray, t, U', L, hT, X', hL, e1, e2, hq, st⟩
  · dsimp only [Pt.U, Pt.locs, Pt.cells, Pt.slots] at X' e1 e2 h1 h2 h3 st hcl
    subst h1; subst h2; subst h3
    exact Or.inr ⟨q, (T.setVm vm₁).calling g' mk As.toArray, t, U', L, E, ce, hT, X', hL, e1, e2, hq, hce, hcv, vx_cls hW₁ hcl, st⟩
end Runs
section Rows
variable {p : Program} {l : Launch} {e : Env} {R : Room} {s : State} {m : MethodId} {args : Array Value} {below : List Frame} {meth : Method} {c : Code} {H : Heap} {locs : List Loc} {cells slots : Nat} {Q : State → Prop}
variable {mc ms : Nat} {free : Addr → Prop} {A0 A1 : Nat → Prop} {H0 : Heap} {a : Array Value} {pc : Nat} {ls : Array Slot} {st0 rest : List Value}
theorem vx_keep {st₀ t T' : State} {L : List Loc} (h0 : st₀.heap = H) (e1 : T'.heap = t.heap) (hS : va_S A0 H0 H locs) (hA : ∀ q, q < H.size → A1 q → A0 q) (hf : ∀ q, free q → A0 q) (hL : ∀ q ∈ L, free q.base) (hF : va_F A1 st₀ t) :
    H.size ≤ T'.heap.size ∧ (∀ q : Nat, q < H.size → ¬ A1 q → T'.heap[q]? = H[q]?) ∧ va_S A0 H0 T'.heap (locs ++ L) := by
  obtain ⟨hz, hk⟩ := hF
  rw [h0] at hz hk
  exact ⟨by rw [e1]; exact hz, fun q h1 h2 => by rw [e1]; exact hk q h1 h2,
    ⟨Nat.le_trans hS.1 (by rw [e1]; exact hz), fun q h1 h2 => by rw [e1, hk q (Nat.lt_of_lt_of_le h1 hS.1) (fun z => h2 (hA q (Nat.lt_of_lt_of_le h1 hS.1) z))]; exact hS.2.1 q h1 h2, fun q hq => by
      rcases List.mem_append.mp hq with h | h
      · exact hS.2.2 q h
      · exact hf _ (hL q h)⟩⟩
theorem vx_calli {S SX : Type} {post : Int32 → S → Prop} {px : SX → Prop} {B : S → State → Prop} {BX : String → SX → State → Prop} {AX : Nat → Prop} (hr : vx_Run p l e R s m args below meth c H locs cells slots mc ms (F0 m pc ls st0) rest (va_Qi post B A1 a) (vx_X px BX AX) free) (hS : va_S A0 H0 H locs) (hA : ∀ q, q < H.size → A1 q → A0 q) (hf : ∀ q, free q → A0 q) (hAX : ∀ q, q < H.size → AX q → A0 q)
    (kx : ∀ (E : String) (ce : Cell) (q9 : Addr) (u : SX) (t : State) (H1 : Heap) (locs1 : List Loc), t.heap = H1 → s.vm.Alike t.vm → px u → BX E u t → H.size ≤ H1.size → (∀ q : Nat, q < H.size → ¬ AX q → H1[q]? = H[q]?) → va_S A0 H0 H1 locs1 → H1[q9]? = some ce → ce.vm = .none → s.vm.findClass E = some ce.cls → vx_W p l e R s m args below meth c H1 locs1 (cells + mc) (slots + ms) Q (F0 m pc ls rest) q9)
    (kk : ∀ (r : Int32) (u : S) (t : State) (H1 : Heap) (locs1 : List Loc), t.heap = H1 → s.vm.Alike t.vm → post r u → B u t → H.size ≤ H1.size → (∀ q : Nat, q < H.size → ¬ A1 q → H1[q]? = H[q]?) → va_S A0 H0 H1 locs1 → W p l e R s m args below meth c H1 locs1 (cells + mc) (slots + ms) Q (F0 m (pc + 3) ls (.int r :: rest))) : W p l e R s m args below meth c H locs cells slots Q (F0 m pc ls st0) := by
  intro T hT X
  rcases hr T hT X with ⟨v, st₀, t, T', L, h0, X', hL, e1, e2, ⟨⟨r, u, hv, hp, hb⟩, hF⟩, st⟩ | ⟨q, st₀, t, T', L, E, ce, h0, X', hL, e1, e2, ⟨u, hp, hb, hF⟩, hce, hcv, hcl, st⟩
  · cases hv
    obtain ⟨k1, k2, k3⟩ := vx_keep h0 e1 hS hA hf hL hF
    obtain ⟨t2, a1, b1⟩ := kk r u t T'.heap (locs ++ L) e1.symm (by rw [← e2]; exact X'.warmed.alike) hp hb k1 k2 k3 T' rfl X'
    exact ⟨t2, st t2 a1, b1⟩
  · obtain ⟨k1, k2, k3⟩ := vx_keep h0 e1 hS hAX hf hL hF
    obtain ⟨t2, a1, b1⟩ := kx E ce q u t T'.heap (locs ++ L) e1.symm (by rw [← e2]; exact X'.warmed.alike) hp hb k1 k2 k3 (by rw [e1]; exact hce) hcv hcl T' rfl X'
    exact ⟨t2, st.trans a1, b1⟩
theorem vx_calll {S SX : Type} {post : Int64 → S → Prop} {px : SX → Prop} {B : S → State → Prop} {BX : String → SX → State → Prop} {AX : Nat → Prop} (hr : vx_Run p l e R s m args below meth c H locs cells slots mc ms (F0 m pc ls st0) rest (va_Ql post B A1 a) (vx_X px BX AX) free) (hS : va_S A0 H0 H locs) (hA : ∀ q, q < H.size → A1 q → A0 q) (hf : ∀ q, free q → A0 q) (hAX : ∀ q, q < H.size → AX q → A0 q)
    (kx : ∀ (E : String) (ce : Cell) (q9 : Addr) (u : SX) (t : State) (H1 : Heap) (locs1 : List Loc), t.heap = H1 → s.vm.Alike t.vm → px u → BX E u t → H.size ≤ H1.size → (∀ q : Nat, q < H.size → ¬ AX q → H1[q]? = H[q]?) → va_S A0 H0 H1 locs1 → H1[q9]? = some ce → ce.vm = .none → s.vm.findClass E = some ce.cls → vx_W p l e R s m args below meth c H1 locs1 (cells + mc) (slots + ms) Q (F0 m pc ls rest) q9)
    (kk : ∀ (r : Int64) (u : S) (t : State) (H1 : Heap) (locs1 : List Loc), t.heap = H1 → s.vm.Alike t.vm → post r u → B u t → H.size ≤ H1.size → (∀ q : Nat, q < H.size → ¬ A1 q → H1[q]? = H[q]?) → va_S A0 H0 H1 locs1 → W p l e R s m args below meth c H1 locs1 (cells + mc) (slots + ms) Q (F0 m (pc + 3) ls (.long r :: rest))) : W p l e R s m args below meth c H locs cells slots Q (F0 m pc ls st0) := by
  intro T hT X
  rcases hr T hT X with ⟨v, st₀, t, T', L, h0, X', hL, e1, e2, ⟨⟨r, u, hv, hp, hb⟩, hF⟩, st⟩ | ⟨q, st₀, t, T', L, E, ce, h0, X', hL, e1, e2, ⟨u, hp, hb, hF⟩, hce, hcv, hcl, st⟩
  · cases hv
    obtain ⟨k1, k2, k3⟩ := vx_keep h0 e1 hS hA hf hL hF
    obtain ⟨t2, a1, b1⟩ := kk r u t T'.heap (locs ++ L) e1.symm (by rw [← e2]; exact X'.warmed.alike) hp hb k1 k2 k3 T' rfl X'
    exact ⟨t2, st t2 a1, b1⟩
  · obtain ⟨k1, k2, k3⟩ := vx_keep h0 e1 hS hAX hf hL hF
    obtain ⟨t2, a1, b1⟩ := kx E ce q u t T'.heap (locs ++ L) e1.symm (by rw [← e2]; exact X'.warmed.alike) hp hb k1 k2 k3 (by rw [e1]; exact hce) hcv hcl T' rfl X'
    exact ⟨t2, st.trans a1, b1⟩
theorem vx_callf {S SX : Type} {post : UInt32 → S → Prop} {px : SX → Prop} {B : S → State → Prop} {BX : String → SX → State → Prop} {AX : Nat → Prop} (hr : vx_Run p l e R s m args below meth c H locs cells slots mc ms (F0 m pc ls st0) rest (va_Qf post B A1 a) (vx_X px BX AX) free) (hS : va_S A0 H0 H locs) (hA : ∀ q, q < H.size → A1 q → A0 q) (hf : ∀ q, free q → A0 q) (hAX : ∀ q, q < H.size → AX q → A0 q)
    (kx : ∀ (E : String) (ce : Cell) (q9 : Addr) (u : SX) (t : State) (H1 : Heap) (locs1 : List Loc), t.heap = H1 → s.vm.Alike t.vm → px u → BX E u t → H.size ≤ H1.size → (∀ q : Nat, q < H.size → ¬ AX q → H1[q]? = H[q]?) → va_S A0 H0 H1 locs1 → H1[q9]? = some ce → ce.vm = .none → s.vm.findClass E = some ce.cls → vx_W p l e R s m args below meth c H1 locs1 (cells + mc) (slots + ms) Q (F0 m pc ls rest) q9)
    (kk : ∀ (r : UInt32) (u : S) (t : State) (H1 : Heap) (locs1 : List Loc), t.heap = H1 → s.vm.Alike t.vm → post r u → B u t → H.size ≤ H1.size → (∀ q : Nat, q < H.size → ¬ A1 q → H1[q]? = H[q]?) → va_S A0 H0 H1 locs1 → W p l e R s m args below meth c H1 locs1 (cells + mc) (slots + ms) Q (F0 m (pc + 3) ls (.float r :: rest))) : W p l e R s m args below meth c H locs cells slots Q (F0 m pc ls st0) := by
  intro T hT X
  rcases hr T hT X with ⟨v, st₀, t, T', L, h0, X', hL, e1, e2, ⟨⟨r, u, hv, hp, hb⟩, hF⟩, st⟩ | ⟨q, st₀, t, T', L, E, ce, h0, X', hL, e1, e2, ⟨u, hp, hb, hF⟩, hce, hcv, hcl, st⟩
  · cases hv
    obtain ⟨k1, k2, k3⟩ := vx_keep h0 e1 hS hA hf hL hF
    obtain ⟨t2, a1, b1⟩ := kk r u t T'.heap (locs ++ L) e1.symm (by rw [← e2]; exact X'.warmed.alike) hp hb k1 k2 k3 T' rfl X'
    exact ⟨t2, st t2 a1, b1⟩
  · obtain ⟨k1, k2, k3⟩ := vx_keep h0 e1 hS hAX hf hL hF
    obtain ⟨t2, a1, b1⟩ := kx E ce q u t T'.heap (locs ++ L) e1.symm (by rw [← e2]; exact X'.warmed.alike) hp hb k1 k2 k3 (by rw [e1]; exact hce) hcv hcl T' rfl X'
    exact ⟨t2, st.trans a1, b1⟩
theorem vx_calld {S SX : Type} {post : UInt64 → S → Prop} {px : SX → Prop} {B : S → State → Prop} {BX : String → SX → State → Prop} {AX : Nat → Prop} (hr : vx_Run p l e R s m args below meth c H locs cells slots mc ms (F0 m pc ls st0) rest (va_Qd post B A1 a) (vx_X px BX AX) free) (hS : va_S A0 H0 H locs) (hA : ∀ q, q < H.size → A1 q → A0 q) (hf : ∀ q, free q → A0 q) (hAX : ∀ q, q < H.size → AX q → A0 q)
    (kx : ∀ (E : String) (ce : Cell) (q9 : Addr) (u : SX) (t : State) (H1 : Heap) (locs1 : List Loc), t.heap = H1 → s.vm.Alike t.vm → px u → BX E u t → H.size ≤ H1.size → (∀ q : Nat, q < H.size → ¬ AX q → H1[q]? = H[q]?) → va_S A0 H0 H1 locs1 → H1[q9]? = some ce → ce.vm = .none → s.vm.findClass E = some ce.cls → vx_W p l e R s m args below meth c H1 locs1 (cells + mc) (slots + ms) Q (F0 m pc ls rest) q9)
    (kk : ∀ (r : UInt64) (u : S) (t : State) (H1 : Heap) (locs1 : List Loc), t.heap = H1 → s.vm.Alike t.vm → post r u → B u t → H.size ≤ H1.size → (∀ q : Nat, q < H.size → ¬ A1 q → H1[q]? = H[q]?) → va_S A0 H0 H1 locs1 → W p l e R s m args below meth c H1 locs1 (cells + mc) (slots + ms) Q (F0 m (pc + 3) ls (.double r :: rest))) : W p l e R s m args below meth c H locs cells slots Q (F0 m pc ls st0) := by
  intro T hT X
  rcases hr T hT X with ⟨v, st₀, t, T', L, h0, X', hL, e1, e2, ⟨⟨r, u, hv, hp, hb⟩, hF⟩, st⟩ | ⟨q, st₀, t, T', L, E, ce, h0, X', hL, e1, e2, ⟨u, hp, hb, hF⟩, hce, hcv, hcl, st⟩
  · cases hv
    obtain ⟨k1, k2, k3⟩ := vx_keep h0 e1 hS hA hf hL hF
    obtain ⟨t2, a1, b1⟩ := kk r u t T'.heap (locs ++ L) e1.symm (by rw [← e2]; exact X'.warmed.alike) hp hb k1 k2 k3 T' rfl X'
    exact ⟨t2, st t2 a1, b1⟩
  · obtain ⟨k1, k2, k3⟩ := vx_keep h0 e1 hS hAX hf hL hF
    obtain ⟨t2, a1, b1⟩ := kx E ce q u t T'.heap (locs ++ L) e1.symm (by rw [← e2]; exact X'.warmed.alike) hp hb k1 k2 k3 (by rw [e1]; exact hce) hcv hcl T' rfl X'
    exact ⟨t2, st.trans a1, b1⟩
theorem vx_callv {S SX : Type} {post : S → Prop} {px : SX → Prop} {B : S → State → Prop} {BX : String → SX → State → Prop} {AX : Nat → Prop} (hr : vx_Run p l e R s m args below meth c H locs cells slots mc ms (F0 m pc ls st0) rest (va_Qv post B A1 a) (vx_X px BX AX) free) (hS : va_S A0 H0 H locs) (hA : ∀ q, q < H.size → A1 q → A0 q) (hf : ∀ q, free q → A0 q) (hAX : ∀ q, q < H.size → AX q → A0 q)
    (kx : ∀ (E : String) (ce : Cell) (q9 : Addr) (u : SX) (t : State) (H1 : Heap) (locs1 : List Loc), t.heap = H1 → s.vm.Alike t.vm → px u → BX E u t → H.size ≤ H1.size → (∀ q : Nat, q < H.size → ¬ AX q → H1[q]? = H[q]?) → va_S A0 H0 H1 locs1 → H1[q9]? = some ce → ce.vm = .none → s.vm.findClass E = some ce.cls → vx_W p l e R s m args below meth c H1 locs1 (cells + mc) (slots + ms) Q (F0 m pc ls rest) q9)
    (kk : ∀ (u : S) (t : State) (H1 : Heap) (locs1 : List Loc), t.heap = H1 → s.vm.Alike t.vm → post u → B u t → H.size ≤ H1.size → (∀ q : Nat, q < H.size → ¬ A1 q → H1[q]? = H[q]?) → va_S A0 H0 H1 locs1 → W p l e R s m args below meth c H1 locs1 (cells + mc) (slots + ms) Q (F0 m (pc + 3) ls (rest))) : W p l e R s m args below meth c H locs cells slots Q (F0 m pc ls st0) := by
  intro T hT X
  rcases hr T hT X with ⟨v, st₀, t, T', L, h0, X', hL, e1, e2, ⟨⟨u, hv, hp, hb⟩, hF⟩, st⟩ | ⟨q, st₀, t, T', L, E, ce, h0, X', hL, e1, e2, ⟨u, hp, hb, hF⟩, hce, hcv, hcl, st⟩
  · cases hv
    obtain ⟨k1, k2, k3⟩ := vx_keep h0 e1 hS hA hf hL hF
    obtain ⟨t2, a1, b1⟩ := kk u t T'.heap (locs ++ L) e1.symm (by rw [← e2]; exact X'.warmed.alike) hp hb k1 k2 k3 T' rfl X'
    exact ⟨t2, st t2 a1, b1⟩
  · obtain ⟨k1, k2, k3⟩ := vx_keep h0 e1 hS hAX hf hL hF
    obtain ⟨t2, a1, b1⟩ := kx E ce q u t T'.heap (locs ++ L) e1.symm (by rw [← e2]; exact X'.warmed.alike) hp hb k1 k2 k3 (by rw [e1]; exact hce) hcv hcl T' rfl X'
    exact ⟨t2, st.trans a1, b1⟩
/-- caught by the row x of this method's table; the rows ahead don't take it -/
theorem vx_catch {own name : String} {E : String} {ce : Cell} {q : Addr} (hown : s.vm.findClass own = some m.cls) (pre : List ExceptionTableEntry) (x : ExceptionTableEntry) (suf : List ExceptionTableEntry) (hsplit : c.exceptionTable.toList = pre ++ x :: suf)
    (hpass : ∀ z ∈ pre, covers z pc = false ∨ (z.catchType ≠ 0 ∧ ∃ nm : String, (Cond.classLink own z.catchType nm).before args s = true ∧ va_Nc E nm s)) (hx : covers x pc = true) (h0 : x.catchType ≠ 0)
    (hlink : (Cond.classLink own x.catchType name).before args s = true) (hcast : (Cond.castable E name).before args s = true) (hcell : H[q]? = some ce) (hv : ce.vm = .none) (hcl : s.vm.findClass E = some ce.cls)
    (kk : W p l e R s m args below meth c H locs cells slots Q (F0 m x.handlerPc ls [.ref q])) : vx_W p l e R s m args below meth c H locs cells slots Q (F0 m pc ls rest) q := by
  intro T hT X
  have hpl : e.platform.magicAccessors = ({} : Platform).magicAccessors := by rw [X.admits.platform]
  obtain ⟨c3, c4, hc3, hc4, hasg⟩ := Cond.castable_spec hcast
  cases Option.some.inj (hc3.symm.trans hcl)
  obtain ⟨c5, hc5, hcl5⟩ := Cond.classLink_spec hown hlink e.platform hpl
  cases Option.some.inj (hc4.symm.trans hc5)
  obtain ⟨vm', X', st⟩ := X.thenCaughtThrough q (g := F0 m pc ls rest) rfl (Steps.refl _) (by rw [hT]; exact hcell) (by rw [hv]; rfl) (by obtain ⟨k9, h9, -⟩ := Vm.findClass_spec hcl; exact ⟨k9, h9⟩) pre x suf hsplit
    (fun z hz => by
      rcases hpass z hz with h | ⟨hz0, nm, hl1, hn1⟩
      · exact Or.inl h
      · obtain ⟨c6, hc6, hcl6⟩ := Cond.classLink_spec hown hl1 e.platform hpl
        obtain ⟨a8, b8, h1, h2, h3⟩ := hn1
        cases Option.some.inj (h1.symm.trans hcl)
        cases Option.some.inj (h2.symm.trans hc6)
        exact Or.inr ⟨hz0, _, hcl6, h3⟩) hx (Or.inr ⟨h0, c4, hcl5, hasg⟩)
  obtain ⟨t, a1, b1⟩ := kk (T.setVm vm') hT X'
  exact ⟨t, st.trans a1, b1⟩
end Rows
section Ends
variable {p : Program} {l : Launch} {e : Env} {R : Room} {s : State} {m : MethodId} {args : Array Value} {below : List Frame} {meth : Method} {c : Code} {H : Heap} {locs : List Loc} {cells slots : Nat} {Q : State → Prop}
variable {mc ms : Nat} {free : Addr → Prop} {A0 A1 : Nat → Prop} {H0 : Heap} {a : Array Value} {ls : Array Slot} {st0 rest : List Value}
variable {Qc : Array Value → State → Outcome → State → Prop} {XC : String → State → State → Prop}
/-- what a body that may throw owes at its end -/
def vx_MQ (below : List Frame) (Qc : Array Value → State → Outcome → State → Prop) (XC : String → State → State → Prop) (a : Array Value) (s : State) (mc ms : Nat) (free : Addr → Prop) : State → Prop := fun t =>
  ∃ o, t.status = .running ∧ Ended t below o ∧ vx_Q Qc XC mc ms free a s o t
theorem vx_ret {g : JFrame} {mc ms : Nat} (k : W p l e R s m args below meth c H locs cells slots (MQ below Qc args s mc ms free) g) : W p l e R s m args below meth c H locs cells slots (vx_MQ below Qc XC args s mc ms free) g := by
  intro T hT X
  obtain ⟨t, a1, o, b1, b2, b3, b4⟩ := k T hT X
  exact ⟨t, a1, o, b1, b2, Or.inl ⟨b3, b4⟩⟩
/-- not caught here: it goes on to the caller -/
theorem vx_widen {g : JFrame} {q : Addr} {k n : Nat} (h1 : cells ≤ k) (h2 : slots ≤ n) (kk : vx_W p l e R s m args below meth c H locs k n Q g q) : vx_W p l e R s m args below meth c H locs cells slots Q g q := fun T hT X => kk T hT (stand_widen X h1 h2)
theorem vx_out {pc : Nat} {E : String} {ce : Cell} {q : Addr} {mc ms : Nat} (hout : ∀ x ∈ c.exceptionTable.toList, covers x pc = false) (hlocks : meth.locks = false) (hcell : H[q]? = some ce) (hv : ce.vm = .none) (hcl : s.vm.findClass E = some ce.cls)
    (hx : ∀ t : State, t.heap = H → s.vm.Alike t.vm → XC E s t) (hf : ∀ z ∈ locs, free z.base) (hc : cells ≤ mc) (hs : slots ≤ ms) :
    vx_W p l e R s m args below meth c H locs cells slots (vx_MQ below Qc XC args s mc ms free) (F0 m pc ls rest) q := by
  intro T hT X
  obtain ⟨st1, hrun, hend, hW, hsm⟩ := X.leaveThrown q (g := F0 m pc ls rest) rfl rfl rfl hout hlocks
  have hcell9 : (T.setFrames (.throwing q :: below)).heap[q]? = some ce := by
    show T.heap[q]? = some ce
    rw [hT]; exact hcell
  exact ⟨_, st1, .threw q, hrun, hend, Or.inr ⟨q, rfl, E, ce, locs, hx _ hT hW.alike, hcell9, hv, hcl, hW, hsm.mono hc hs, hf⟩⟩
theorem vx_frame {U : State} {k n : Nat} (h : s.sameButNew ({ U with vm := s.vm } : State) locs k n) : s.heap.size ≤ U.heap.size ∧ ∀ q : Nat, q < s.heap.size → (∀ z ∈ locs, z.base ≠ q) → U.heap[q]? = s.heap[q]? := by
  obtain ⟨-, h2, -, -, -, h6⟩ := h
  refine ⟨h2, fun q hq hz => ?_⟩
  obtain ⟨c9, e1, e2, e3, e4⟩ := h6 q _ (Array.getElem?_eq_getElem hq)
  have hs : c9.slots = (s.heap[q]).slots := Array.ext_getElem? fun i => e4 i fun hm => hz _ hm rfl
  have h9 : c9 = s.heap[q] := by
    rw [hs] at e2
    exact e2
  have e5 : U.heap[q]? = some c9 := e1
  rw [e5, h9, Array.getElem?_eq_getElem hq]
/-- the words of a throw but the four that speak of the heap -/
def vx_no (w : Cond) : Bool := decide (w ≠ .isRef (.static Bundle.tN "UNASSIGNED_STACK" Bundle.steD)) && decide (w ≠ .isRef (.static Bundle.tN "SUPPRESSED_SENTINEL" Bundle.listD)) && decide (w ≠ .laysStatic Bundle.tN "UNASSIGNED_STACK" Bundle.steD) && decide (w ≠ .laysStatic Bundle.tN "SUPPRESSED_SENTINEL" Bundle.listD)
def vx_at0 (own : String) (ic : Nat) (X : String) (names : List String) : List Cond := (Bundle.ownAtoms0 own ic X names).filter vx_no
def vx_atS (own : String) (ic : Nat) (X : String) (names : List String) : List Cond := (Bundle.ownAtoms own ic X names).filter vx_no
/-- a word that the tables alone decide, or a good one -/
def vx_ot (w : Cond) : Bool := w.onTables || goodWord w
theorem vx_ot_at {args a' : Array Value} {s U : State} {w : Cond} (hW : s.WarmedH U.vm) (hvm : s.vm = U.vm) (hg : vx_ot w = true) (h : w.before args s = true) : w.before a' U = true := by
  simp only [vx_ot, Bool.or_eq_true] at hg
  rcases hg with hg | hg
  · exact va_tabs hg hvm h
  · exact word_at hW (good_of_word hg) h
/-- a list's words: the good ones out of the method's own list, the others by premises of their own -/
theorem vx_hat {args : Array Value} {s : State} {L B : List Cond} (h1 : ∀ w ∈ L.filter goodWord, w.before args s = true) (h2 : ∀ w ∈ L.filter (fun w => !goodWord w), w ∈ B) (h3 : ∀ w ∈ B, w.before args s = true) : ∀ w ∈ L, w.before args s = true := by
  intro w hw
  by_cases g : goodWord w = true
  · exact h1 w (List.mem_filter.mpr ⟨hw, g⟩)
  · refine h3 w (h2 w (List.mem_filter.mpr ⟨hw, ?_⟩))
    show (!goodWord w) = true
    cases hgw : goodWord w
    · rfl
    · exact absurd hgw g
theorem vx_c {args : Array Value} {s : State} {w : Cond} {B : List Cond} (h : w.before args s = true) (t : ∀ w ∈ B, w.before args s = true) : ∀ w' ∈ w :: B, w'.before args s = true := fun w' h' => (List.mem_cons.mp h').elim (fun e => by rw [e]; exact h) (t w')
theorem vx_n {args : Array Value} {s : State} : ∀ w ∈ ([] : List Cond), w.before args s = true := fun _ h => nomatch h
theorem vx_own {args : Array Value} {s : State} {L : List Cond} (h1 : ∀ w ∈ L.filter vx_no, w.before args s = true)
    (hU : (Cond.isRef (.static Bundle.tN "UNASSIGNED_STACK" Bundle.steD)).before args s = true) (hN : (Cond.isRef (.static Bundle.tN "SUPPRESSED_SENTINEL" Bundle.listD)).before args s = true)
    (lU : (Cond.laysStatic Bundle.tN "UNASSIGNED_STACK" Bundle.steD).before args s = true) (lN : (Cond.laysStatic Bundle.tN "SUPPRESSED_SENTINEL" Bundle.listD).before args s = true) : ∀ w ∈ L, w.before args s = true := by
  intro w hw
  by_cases e1 : w = .isRef (.static Bundle.tN "UNASSIGNED_STACK" Bundle.steD)
  · rw [e1]; exact hU
  · by_cases e2 : w = .isRef (.static Bundle.tN "SUPPRESSED_SENTINEL" Bundle.listD)
    · rw [e2]; exact hN
    · by_cases e3 : w = .laysStatic Bundle.tN "UNASSIGNED_STACK" Bundle.steD
      · rw [e3]; exact lU
      · by_cases e4 : w = .laysStatic Bundle.tN "SUPPRESSED_SENTINEL" Bundle.listD
        · rw [e4]; exact lN
        · exact h1 w (List.mem_filter.mpr ⟨hw, by unfold vx_no; rw [decide_eq_true e1, decide_eq_true e2, decide_eq_true e3, decide_eq_true e4]; rfl⟩)
/-- where a static field lies, its class's statics cell in H -/
def vx_L (C n d : String) (A : Nat → Prop) (U : State) (H : Heap) : Prop := ∃ (c : ClassId) (k : Class) (i : Nat) (f : Field) (a : Nat) (cell : Cell), U.vm.findClass C = some c ∧ U.fieldFound? C n d = some (c, k, i, f) ∧ f.isStatic = true ∧ k.statics = some a ∧ H[a]? = some cell ∧ cell.vm.isStatics = true ∧ cell.cls = c ∧ f.slot < cell.slots.size ∧ k.staticTypes[f.slot]? = some f.type ∧ ¬ A a
theorem vx_L.moved {C n d : String} {A : Nat → Prop} {u U : State} {H : Heap} (hvm : u.vm.Alike U.vm) (h : vx_L C n d A u H) : vx_L C n d A U H := by
  obtain ⟨c, k, i, f, a, cell, h1, h2, h3, h4, h5, h6, h7, h8, h9, h10⟩ := h
  obtain ⟨k', hi', he⟩ := State.fieldFound?_setVm hvm h2
  exact ⟨c, k', i, f, a, cell, by rw [hvm.findClass]; exact h1, hi', h3, by rw [he]; exact h4, h5, h6, h7, h8, by rw [he]; exact h9, h10⟩
theorem vx_L.kept {C n d : String} {A : Nat → Prop} {U : State} {H H1 : Heap} (h : vx_L C n d A U H) (hq : ∀ a : Nat, a < H.size → ¬ A a → H1[a]? = H[a]?) : vx_L C n d A U H1 := by
  obtain ⟨c, k, i, f, a, cell, h1, h2, h3, h4, h5, h6, h7, h8, h9, h10⟩ := h
  exact ⟨c, k, i, f, a, cell, h1, h2, h3, h4, by rw [hq a (Array.getElem?_eq_some_iff.mp h5).1 h10]; exact h5, h6, h7, h8, h9, h10⟩
theorem vx_L.narrow {C n d : String} {A B : Nat → Prop} {U : State} {H : Heap} (h : vx_L C n d A U H) (hAB : ∀ q, B q → A q) : vx_L C n d B U H := by
  obtain ⟨c, k, i, f, a, cell, h1, h2, h3, h4, h5, h6, h7, h8, h9, h10⟩ := h
  exact ⟨c, k, i, f, a, cell, h1, h2, h3, h4, h5, h6, h7, h8, h9, fun z => h10 (hAB _ z)⟩
theorem vx_L.word {C n d : String} {A : Nat → Prop} {s : State} {args : Array Value} (h : vx_L C n d A s s.heap) : (Cond.laysStatic C n d).before args s = true := by
  obtain ⟨c, k, i, f, a, cell, h1, h2, h3, h4, h5, h6, h7, h8, h9, -⟩ := h
  show (Cond.laysStatic C n d).holds args s none s [] = true
  exact Cond.laysStatic_of h1 h2 h3 h4 h5 h6 h7 h8 h9
/-- .. and what it holds: null or some reference -/
def vx_Zq (C n d : String) (A : Nat → Prop) (U : State) (H : Heap) : Prop := va_Zq C n d A U H ∧ vx_L C n d A U H
theorem vx_Zq.moved {C n d : String} {A : Nat → Prop} {u U : State} {H : Heap} (hvm : u.vm.Alike U.vm) (h : vx_Zq C n d A u H) : vx_Zq C n d A U H := ⟨va_Zq.moved hvm h.1, vx_L.moved hvm h.2⟩
theorem vx_Zq.kept {C n d : String} {A : Nat → Prop} {U : State} {H H1 : Heap} (h : vx_Zq C n d A U H) (hq : ∀ a : Nat, a < H.size → ¬ A a → H1[a]? = H[a]?) : vx_Zq C n d A U H1 := ⟨va_Zq.kept h.1 hq, vx_L.kept h.2 hq⟩
theorem vx_Zq.narrow {C n d : String} {A B : Nat → Prop} {U : State} {H : Heap} (h : vx_Zq C n d A U H) (hAB : ∀ q, B q → A q) : vx_Zq C n d B U H := ⟨va_Zq.narrow h.1 hAB, vx_L.narrow h.2 hAB⟩
theorem vx_Zqof {args : Array Value} {s : State} {C n d : String} {A : Nat → Prop} (hl : (Cond.laysStatic C n d).before args s = true) (hini : (Cond.initialized C).before args s = true) (h : (Cond.isRef (.static C n d)).before args s = true) (hA : ∀ a : Nat, a < s.heap.size → ¬ A a) : vx_Zq C n d A s s.heap := by
  refine ⟨va_Zqof hl hini h hA, ?_⟩
  obtain ⟨c, k, i, f, a, cell, h1, h2, h3, h4, h5, h6, h7, h8, h9⟩ := Cond.laysStatic_spec hl
  exact ⟨c, k, i, f, a, cell, h1, h2, h3, h4, h5, h6, h7, h8, h9, hA a (Array.getElem?_eq_some_iff.mp h5).1⟩
theorem vx_isRef {C n d : String} {v : Value} {A : Nat → Prop} {s : State} {args : Array Value} (h : va_Z C n d v A s s.heap) (hv : v.isRef = true) : (Cond.isRef (.static C n d)).before args s = true := by
  obtain ⟨cf, kf, fi, f, a, cell, h1, h2, h3, h4, h5, h6, h7, -⟩ := h
  have he : (Term.static C n d).eval args s none [] s = some v := by
    simp [Term.eval, State.fieldNamed?, h1, h2, h4, h5, h6, h7]
  simp only [Cond.before, Cond.holds, Cond.value, he]
  cases v <;> simp_all [Value.isRef]
theorem vx_isRefq {C n d : String} {A : Nat → Prop} {s : State} {args : Array Value} (h : va_Zq C n d A s s.heap) : (Cond.isRef (.static C n d)).before args s = true := by
  rcases h with h | ⟨t, h⟩
  · exact vx_isRef h rfl
  · exact vx_isRef h rfl
/-- the same frame, seen from here: as if the method were called anew in this heap -/
theorem vx_rebase {T : State} (X : Stand p l e R s m args below meth c T locs cells slots) {R' : Room} (hf : R'.frames ≤ R.frames) (hl : R'.locals ≤ R.locals) (hc : cells + R'.cells ≤ R.cells) (hs : slots + R'.slots ≤ R.slots) :
    Stand p l e R' ((T.setVm s.vm).setFrames (.invoking m args :: below)) m args below meth c T [] 0 0 := by
  have htop : (T.setVm s.vm).topJava?.isSome := X.here.top
  have hF : ((T.setVm s.vm).setFrames (.invoking m args :: below)).frames = .invoking m args :: below := State.frames_setFrames _ (State.cur_lt_of_top htop)
  obtain ⟨g₀, hg0⟩ := Option.isSome_iff_exists.mp htop
  obtain ⟨r, hr⟩ := State.topJava?_eq_some.mp hg0
  have hl9 : e.platform.stackLimits (T.setVm s.vm).me = e.platform.stackLimits s.me := X.limits
  have hb9 : (T.setVm s.vm).me.stackBytes = s.me.stackBytes := X.bytes
  refine ⟨X.admits, X.cas, X.clock, hF, ?_, X.hears, X.method, X.code, X.here, X.tail, X.warmed, ?_, ?_, ?_⟩
  · have h := X.room
    have hU : ((T.setVm s.vm).setFrames (.invoking m args :: below)).localsInUse = s.localsInUse := by
      rw [State.localsInUse_invoking hF (meth := meth) (c := c) X.method X.code, State.localsInUse_invoking X.frames X.method X.code]
    simp only [State.hasRoom, Bool.and_eq_true, decide_eq_true_eq] at h ⊢
    obtain ⟨⟨⟨⟨h1, h2, h3, h4, h5, h6⟩, h7⟩, h8⟩, h9⟩ := h
    rw [X.frames, List.length_cons] at h2 h3
    have q1 := X.heapSize
    have q2 := X.used
    simp only [hF, hU, List.length_cons, State.stackLimits_setFrames, State.stackBytes_setFrames, hl9, hb9]
    refine ⟨⟨⟨⟨by omega, by omega, by omega, by omega, by omega, h6⟩, ?_⟩, ?_⟩, X.book⟩
    · show T.heap.size + R'.cells ≤ e.platform.maxCells
      omega
    · show T.slotsUsed + R'.slots ≤ e.platform.maxSlots
      omega
  · rw [State.stackLimits_setFrames]; rfl
  · rw [State.stackBytes_setFrames]; rfl
  · refine ⟨?_, Nat.le_refl _, Nat.le_refl _, ?_, ?_, fun a c9 h9 => ⟨c9, h9, rfl, rfl, fun _ _ => rfl⟩⟩
    · obtain ⟨t, ht, -⟩ := State.frames_cons hr
      show T.setVm s.vm = { ((T.setVm s.vm).setFrames (.invoking m args :: below)).setFrames (T.setVm s.vm).frames with heap := T.heap, slotsUsed := T.slotsUsed }
      rw [State.setFrames_setFrames, State.setFrames_self ht]
      rfl
    · show T.slotsUsed = T.slotsUsed + ((T.heap.toList.drop T.heap.size).map (·.slots.size)).sum
      rw [List.drop_eq_nil_of_le (Nat.le_of_eq Array.length_toList)]
      rfl
    · show ((T.heap.toList.drop T.heap.size).map (·.slots.size)).sum ≤ 0
      rw [List.drop_eq_nil_of_le (Nat.le_of_eq Array.length_toList)]
      exact Nat.le_refl _
/-- 'throw new E()': new; dup; invokespecial; athrow -/
theorem vx_throw0 {cc : ByteArray} {pc : Nat} (hexec : p.tables.exec = Jvm.exec) (hb : c.code = cc) (hl : l.stackTraces = false) {own cls : String} {names : List String} {ik ic mc ms : Nat} {A : Nat → Prop}
    (hown : s.vm.findClass own = some m.cls) (hcls : Bundle.fit cls = true) (hnames : ∀ n ∈ names, Bundle.fit n = true)
    (hk : (Cond.classLink own ik cls).before args s = true) (hini : (Cond.initialized cls).before args s = true) (hat : ∀ w ∈ vx_at0 own ic cls names, w.before args s = true)
    (hgood : ∀ w ∈ Cond.classLink own ik cls :: Cond.initialized cls :: vx_at0 own ic cls names, vx_ot w = true)
    (hU : vx_Zq Bundle.tN "UNASSIGNED_STACK" Bundle.steD A s s.heap) (hN : vx_Zq Bundle.tN "SUPPRESSED_SENTINEL" Bundle.listD A s s.heap) (hS : va_S A s.heap H locs) (hsize : ls.size = c.maxLocals)
    (d0 : decode cc pc = .ok (.new ik, 3)) (d3 : decode cc (pc + 3) = .ok (.dup, 1)) (d4 : decode cc (pc + 4) = .ok (.invokespecial ic, 3)) (d7 : decode cc (pc + 7) = .ok (.athrow, 1))
    (hout : ∀ x ∈ c.exceptionTable.toList, covers x (pc + 7) = false)
    (hRframes : names.length + 3 < R.frames) (hRlocals : (rest.map fun v => v.category).sum + (13 * (names.length + 1) + 42) ≤ R.locals) (hRcells : cells + 1 ≤ R.cells) (hRslots : slots + 6 ≤ R.slots) (hlocks : meth.locks = false)
    (hx : ∀ t : State, s.vm.Alike t.vm → H.size ≤ t.heap.size → (∀ q : Nat, q < H.size → t.heap[q]? = H[q]?) → XC cls s t)
    (hf : ∀ z ∈ locs, free z.base) (hc : cells + 1 ≤ mc) (hs : slots + 6 ≤ ms) :
    W p l e R s m args below meth c H locs cells slots (vx_MQ below Qc XC args s mc ms free) (F0 m pc ls rest) := by
  intro T hT X
  have htr : e.platform.stackTraces = false := (show e.platform.stackTraces = l.stackTraces by rw [X.admits.platform]).trans hl
  have Y := vx_rebase X (R' := { frames := R.frames, locals := R.locals, cells := 1, slots := 6 }) (Nat.le_refl _) (Nat.le_refl _) hRcells hRslots
  obtain ⟨s', hA⟩ : ∃ z, z = (T.setVm s.vm).setFrames (.invoking m args :: below) := ⟨_, rfl⟩
  rw [← hA] at Y
  have hvm : s'.vm = s.vm := by rw [hA]; rfl
  have hhp : s'.heap = H := by rw [hA]; exact hT
  have hW0 : s.WarmedH s'.vm := by rw [hvm]; exact State.WarmedH.refl s
  have hat' : ∀ w ∈ vx_at0 own ic cls names, w.before args s' = true := fun w hw => vx_ot_at hW0 hvm.symm (hgood w (List.mem_cons_of_mem _ (List.mem_cons_of_mem _ hw))) (hat w hw)
  have hk' : (Cond.classLink own ik cls).before args s' = true := vx_ot_at hW0 hvm.symm (hgood _ List.mem_cons_self) hk
  have hini' : (Cond.initialized cls).before args s' = true := vx_ot_at hW0 hvm.symm (hgood _ (List.mem_cons_of_mem _ List.mem_cons_self)) hini
  have hU' : vx_Zq Bundle.tN "UNASSIGNED_STACK" Bundle.steD A s' s'.heap := by rw [hhp]; exact vx_Zq.moved hW0.alike (hU.kept hS.2.1)
  have hN' : vx_Zq Bundle.tN "SUPPRESSED_SENTINEL" Bundle.listD A s' s'.heap := by rw [hhp]; exact vx_Zq.moved hW0.alike (hN.kept hS.2.1)
  have h : ∀ w ∈ Bundle.ownAtoms0 own ic cls names, w.before args s' = true := vx_own hat' (vx_isRefq hU'.1) (vx_isRefq hN'.1) hU'.2.word hN'.2.word
  have hown' : s'.vm.findClass own = some m.cls := by rw [hvm]; exact hown
  have hins : (Cond.instantiable cls 6).before args s' = true := h _ (by simp [Bundle.ownAtoms0])
  obtain ⟨vm₁, cX, kX, hfX, hkX, -, -, X₁, st1⟩ := Y.newCold hexec (own := own) (C := cls) (index := ik) (n := 6) hown' hk' hins hini'
    (g := F0 m pc ls rest) rfl (by rw [hb]; exact d0) (Nat.le_refl _) (Nat.le_refl _)
  generalize hT1 : (T.setVm vm₁).pushCell { cls := cX, slots := kX.instanceTypes.map defaultValue, vm := .none } = T1 at X₁ st1
  have hcat : (Value.ref T.heap.size).category = 1 := rfl
  have hcellA : T1.heap[T.heap.size]? = some (freshCell cX kX) := by rw [← hT1]; exact State.heap_pushCell_size _ _
  have d3' : decode c.code (pc + 3) = .ok (.dup, 1) := by rw [hb]; exact d3
  obtain ⟨U, hsteps, hrun, hend, hW, hsame, ce, hce, hO⟩ := X₁.ctorThrow0 hexec htr (own := own) (cls := cls) (names := names) (ic := ic) hown' hcls hnames h (fun x hx => nomatch hx) hfX hkX hcellA (by rw [hhp, hT]; exact Nat.le_refl _)
    (g := { method := m, pc := pc + 4, locals := ls, stack := .ref T.heap.size :: .ref T.heap.size :: rest, locked := none }) rfl hsize rfl rfl (rest := rest) rfl
    (by rw [hb]; exact d4) (by rw [hb]; exact d7) hout hRframes (by simp only [List.map_cons, List.sum_cons, hcat]; omega) hlocks
  obtain ⟨f1, f2⟩ := vx_frame hsame
  rw [hhp] at f1 f2
  have hWs : s.WarmedH U.vm := State.WarmedH.trans hW0 hW
  have hcl : s.vm.findClass cls = some ce.cls := by
    have h9 := hO.cls
    rw [hvm] at h9
    exact h9
  have hall : s.sameButNew ({ U with vm := s.vm } : State) locs mc ms := by
    subst hA
    obtain ⟨e1, e2⟩ := hsame
    rw [State.setFrames_setFrames] at e1
    have h2 : (T.setVm s.vm).sameButNew ({ U with vm := s.vm } : State) [] (0 + 1) (0 + 6) := ⟨e1, e2⟩
    have h3 := X.same.trans h2
    rw [List.append_nil] at h3
    exact h3.mono hc hs
  refine ⟨U, ?_, .threw T.heap.size, hrun, hend, Or.inr ⟨T.heap.size, rfl, cls, ce, locs, hx U hWs.alike f1 (fun q hq => f2 q hq (fun z hz => nomatch hz)), hce, hO.vm, hcl, hWs, hall, hf⟩⟩
  refine st1 _ ?_
  show Steps p.tables e below (T1.setTop { method := m, pc := pc + 3, locals := ls, stack := .ref T.heap.size :: rest, locked := none }) _
  jvm_step X₁.here [X₁.here.top, hexec, d3', Value.category]
  exact hsteps
/-- 'throw new E("text")': new; dup; ldc; invokespecial; athrow -/
theorem vx_throwS {cc : ByteArray} {pc : Nat} (hexec : p.tables.exec = Jvm.exec) (hb : c.code = cc) (hl : l.stackTraces = false) {own cls text : String} {names : List String} {ik is ic mc ms sa : Nat} {A : Nat → Prop}
    (hown : s.vm.findClass own = some m.cls) (hcls : Bundle.fit cls = true) (hnames : ∀ n ∈ names, Bundle.fit n = true)
    (hk : (Cond.classLink own ik cls).before args s = true) (hini : (Cond.initialized cls).before args s = true) (hstr : vk_R own is text sa s) (hat : ∀ w ∈ vx_atS own ic cls names, w.before args s = true)
    (hgood : ∀ w ∈ Cond.classLink own ik cls :: Cond.initialized cls :: vx_atS own ic cls names, vx_ot w = true)
    (hU : vx_Zq Bundle.tN "UNASSIGNED_STACK" Bundle.steD A s s.heap) (hN : vx_Zq Bundle.tN "SUPPRESSED_SENTINEL" Bundle.listD A s s.heap) (hS : va_S A s.heap H locs) (hsize : ls.size = c.maxLocals)
    (d0 : decode cc pc = .ok (.new ik, 3)) (d3 : decode cc (pc + 3) = .ok (.dup, 1)) (d4 : decode cc (pc + 4) = .ok (.ldc is, 2)) (d6 : decode cc (pc + 6) = .ok (.invokespecial ic, 3)) (d9 : decode cc (pc + 9) = .ok (.athrow, 1))
    (hout : ∀ x ∈ c.exceptionTable.toList, covers x (pc + 9) = false)
    (hRframes : names.length + 3 < R.frames) (hRlocals : (rest.map fun v => v.category).sum + (13 * (names.length + 1) + 43) ≤ R.locals) (hRcells : cells + 1 ≤ R.cells) (hRslots : slots + 6 ≤ R.slots) (hlocks : meth.locks = false)
    (hx : ∀ t : State, s.vm.Alike t.vm → H.size ≤ t.heap.size → (∀ q : Nat, q < H.size → t.heap[q]? = H[q]?) → XC cls s t)
    (hf : ∀ z ∈ locs, free z.base) (hc : cells + 1 ≤ mc) (hs : slots + 6 ≤ ms) :
    W p l e R s m args below meth c H locs cells slots (vx_MQ below Qc XC args s mc ms free) (F0 m pc ls rest) := by
  intro T hT X
  have htr : e.platform.stackTraces = false := (show e.platform.stackTraces = l.stackTraces by rw [X.admits.platform]).trans hl
  have Y := vx_rebase X (R' := { frames := R.frames, locals := R.locals, cells := 1, slots := 6 }) (Nat.le_refl _) (Nat.le_refl _) hRcells hRslots
  obtain ⟨s', hA⟩ : ∃ z, z = (T.setVm s.vm).setFrames (.invoking m args :: below) := ⟨_, rfl⟩
  rw [← hA] at Y
  have hvm : s'.vm = s.vm := by rw [hA]; rfl
  have hhp : s'.heap = H := by rw [hA]; exact hT
  have hW0 : s.WarmedH s'.vm := by rw [hvm]; exact State.WarmedH.refl s
  have hat' : ∀ w ∈ vx_atS own ic cls names, w.before args s' = true := fun w hw => vx_ot_at hW0 hvm.symm (hgood w (List.mem_cons_of_mem _ (List.mem_cons_of_mem _ hw))) (hat w hw)
  have hk' : (Cond.classLink own ik cls).before args s' = true := vx_ot_at hW0 hvm.symm (hgood _ List.mem_cons_self) hk
  have hini' : (Cond.initialized cls).before args s' = true := vx_ot_at hW0 hvm.symm (hgood _ (List.mem_cons_of_mem _ List.mem_cons_self)) hini
  have hU' : vx_Zq Bundle.tN "UNASSIGNED_STACK" Bundle.steD A s' s'.heap := by rw [hhp]; exact vx_Zq.moved hW0.alike (hU.kept hS.2.1)
  have hN' : vx_Zq Bundle.tN "SUPPRESSED_SENTINEL" Bundle.listD A s' s'.heap := by rw [hhp]; exact vx_Zq.moved hW0.alike (hN.kept hS.2.1)
  have h : ∀ w ∈ Bundle.ownAtoms own ic cls names, w.before args s' = true := vx_own hat' (vx_isRefq hU'.1) (vx_isRefq hN'.1) hU'.2.word hN'.2.word
  have hown' : s'.vm.findClass own = some m.cls := by rw [hvm]; exact hown
  have hins : (Cond.instantiable cls 6).before args s' = true := h _ (by simp [Bundle.ownAtoms])
  obtain ⟨vm₁, cX, kX, hfX, hkX, -, -, X₁, st1⟩ := Y.newCold hexec (own := own) (C := cls) (index := ik) (n := 6) hown' hk' hins hini'
    (g := F0 m pc ls rest) rfl (by rw [hb]; exact d0) (Nat.le_refl _) (Nat.le_refl _)
  generalize hT1 : (T.setVm vm₁).pushCell { cls := cX, slots := kX.instanceTypes.map defaultValue, vm := .none } = T1 at X₁ st1
  have hcat : (Value.ref T.heap.size).category = 1 := rfl
  have hcellA : T1.heap[T.heap.size]? = some (freshCell cX kX) := by rw [← hT1]; exact State.heap_pushCell_size _ _
  have d3' : decode c.code (pc + 3) = .ok (.dup, 1) := by rw [hb]; exact d3
  have d4' : decode c.code (pc + 4) = .ok (.ldc is, 2) := by rw [hb]; exact d4
  have hstr' : vk_R own is text sa s' := vk_R.warm hW0 hstr
  obtain ⟨U, hsteps, hrun, hend, hW, hsame, ce, hce, hO⟩ := X₁.ctorThrowS hexec htr (own := own) (cls := cls) (names := names) (ic := ic) hown' hcls hnames h (fun x hx => nomatch hx) hfX hkX hcellA (by rw [hhp, hT]; exact Nat.le_refl _) (msg := .ref sa) rfl
    (g := { method := m, pc := pc + 6, locals := ls, stack := .ref sa :: .ref T.heap.size :: .ref T.heap.size :: rest, locked := none }) rfl hsize rfl rfl (rest := rest) rfl
    (by rw [hb]; exact d6) (by rw [hb]; exact d9) hout hRframes (by simp only [List.map_cons, List.sum_cons, hcat]; omega) hlocks
  obtain ⟨f1, f2⟩ := vx_frame hsame
  rw [hhp] at f1 f2
  have hWs : s.WarmedH U.vm := State.WarmedH.trans hW0 hW
  have hcl : s.vm.findClass cls = some ce.cls := by
    have h9 := hO.cls
    rw [hvm] at h9
    exact h9
  have hall : s.sameButNew ({ U with vm := s.vm } : State) locs mc ms := by
    subst hA
    obtain ⟨e1, e2⟩ := hsame
    rw [State.setFrames_setFrames] at e1
    have h2 : (T.setVm s.vm).sameButNew ({ U with vm := s.vm } : State) [] (0 + 1) (0 + 6) := ⟨e1, e2⟩
    have h3 := X.same.trans h2
    rw [List.append_nil] at h3
    exact h3.mono hc hs
  refine ⟨U, ?_, .threw T.heap.size, hrun, hend, Or.inr ⟨T.heap.size, rfl, cls, ce, locs, hx U hWs.alike f1 (fun q hq => f2 q hq (fun z hz => nomatch hz)), hce, hO.vm, hcl, hWs, hall, hf⟩⟩
  refine st1 _ ?_
  show Steps p.tables e below (T1.setTop { method := m, pc := pc + 3, locals := ls, stack := .ref T.heap.size :: rest, locked := none }) _
  jvm_step X₁.here [X₁.here.top, hexec, d3', Value.category]
  exact X₁.ldcString hexec (own := own) (text := text) (index := is) (a := sa) hown' hstr'.1 hstr'.2
    (g := { method := m, pc := pc + 4, locals := ls, stack := .ref T.heap.size :: .ref T.heap.size :: rest, locked := none }) rfl d4' _ hsteps
/-- 'throw new E("text")', the text by a wide index -/
theorem vx_throwSW {cc : ByteArray} {pc : Nat} (hexec : p.tables.exec = Jvm.exec) (hb : c.code = cc) (hl : l.stackTraces = false) {own cls text : String} {names : List String} {ik is ic mc ms sa : Nat} {A : Nat → Prop}
    (hown : s.vm.findClass own = some m.cls) (hcls : Bundle.fit cls = true) (hnames : ∀ n ∈ names, Bundle.fit n = true)
    (hk : (Cond.classLink own ik cls).before args s = true) (hini : (Cond.initialized cls).before args s = true) (hstr : vk_R own is text sa s) (hat : ∀ w ∈ vx_atS own ic cls names, w.before args s = true)
    (hgood : ∀ w ∈ Cond.classLink own ik cls :: Cond.initialized cls :: vx_atS own ic cls names, vx_ot w = true)
    (hU : vx_Zq Bundle.tN "UNASSIGNED_STACK" Bundle.steD A s s.heap) (hN : vx_Zq Bundle.tN "SUPPRESSED_SENTINEL" Bundle.listD A s s.heap) (hS : va_S A s.heap H locs) (hsize : ls.size = c.maxLocals)
    (d0 : decode cc pc = .ok (.new ik, 3)) (d3 : decode cc (pc + 3) = .ok (.dup, 1)) (d4 : decode cc (pc + 4) = .ok (.ldc_w is, 3)) (d7 : decode cc (pc + 7) = .ok (.invokespecial ic, 3)) (d10 : decode cc (pc + 10) = .ok (.athrow, 1))
    (hout : ∀ x ∈ c.exceptionTable.toList, covers x (pc + 10) = false)
    (hRframes : names.length + 3 < R.frames) (hRlocals : (rest.map fun v => v.category).sum + (13 * (names.length + 1) + 43) ≤ R.locals) (hRcells : cells + 1 ≤ R.cells) (hRslots : slots + 6 ≤ R.slots) (hlocks : meth.locks = false)
    (hx : ∀ t : State, s.vm.Alike t.vm → H.size ≤ t.heap.size → (∀ q : Nat, q < H.size → t.heap[q]? = H[q]?) → XC cls s t)
    (hf : ∀ z ∈ locs, free z.base) (hc : cells + 1 ≤ mc) (hs : slots + 6 ≤ ms) :
    W p l e R s m args below meth c H locs cells slots (vx_MQ below Qc XC args s mc ms free) (F0 m pc ls rest) := by
  intro T hT X
  have htr : e.platform.stackTraces = false := (show e.platform.stackTraces = l.stackTraces by rw [X.admits.platform]).trans hl
  have Y := vx_rebase X (R' := { frames := R.frames, locals := R.locals, cells := 1, slots := 6 }) (Nat.le_refl _) (Nat.le_refl _) hRcells hRslots
  obtain ⟨s', hA⟩ : ∃ z, z = (T.setVm s.vm).setFrames (.invoking m args :: below) := ⟨_, rfl⟩
  rw [← hA] at Y
  have hvm : s'.vm = s.vm := by rw [hA]; rfl
  have hhp : s'.heap = H := by rw [hA]; exact hT
  have hW0 : s.WarmedH s'.vm := by rw [hvm]; exact State.WarmedH.refl s
  have hat' : ∀ w ∈ vx_atS own ic cls names, w.before args s' = true := fun w hw => vx_ot_at hW0 hvm.symm (hgood w (List.mem_cons_of_mem _ (List.mem_cons_of_mem _ hw))) (hat w hw)
  have hk' : (Cond.classLink own ik cls).before args s' = true := vx_ot_at hW0 hvm.symm (hgood _ List.mem_cons_self) hk
  have hini' : (Cond.initialized cls).before args s' = true := vx_ot_at hW0 hvm.symm (hgood _ (List.mem_cons_of_mem _ List.mem_cons_self)) hini
  have hU' : vx_Zq Bundle.tN "UNASSIGNED_STACK" Bundle.steD A s' s'.heap := by rw [hhp]; exact vx_Zq.moved hW0.alike (hU.kept hS.2.1)
  have hN' : vx_Zq Bundle.tN "SUPPRESSED_SENTINEL" Bundle.listD A s' s'.heap := by rw [hhp]; exact vx_Zq.moved hW0.alike (hN.kept hS.2.1)
  have h : ∀ w ∈ Bundle.ownAtoms own ic cls names, w.before args s' = true := vx_own hat' (vx_isRefq hU'.1) (vx_isRefq hN'.1) hU'.2.word hN'.2.word
  have hown' : s'.vm.findClass own = some m.cls := by rw [hvm]; exact hown
  have hins : (Cond.instantiable cls 6).before args s' = true := h _ (by simp [Bundle.ownAtoms])
  obtain ⟨vm₁, cX, kX, hfX, hkX, -, -, X₁, st1⟩ := Y.newCold hexec (own := own) (C := cls) (index := ik) (n := 6) hown' hk' hins hini'
    (g := F0 m pc ls rest) rfl (by rw [hb]; exact d0) (Nat.le_refl _) (Nat.le_refl _)
  generalize hT1 : (T.setVm vm₁).pushCell { cls := cX, slots := kX.instanceTypes.map defaultValue, vm := .none } = T1 at X₁ st1
  have hcat : (Value.ref T.heap.size).category = 1 := rfl
  have hcellA : T1.heap[T.heap.size]? = some (freshCell cX kX) := by rw [← hT1]; exact State.heap_pushCell_size _ _
  have d3' : decode c.code (pc + 3) = .ok (.dup, 1) := by rw [hb]; exact d3
  have d4' : decode c.code (pc + 4) = .ok (.ldc_w is, 3) := by rw [hb]; exact d4
  have hstr' : vk_R own is text sa s' := vk_R.warm hW0 hstr
  obtain ⟨U, hsteps, hrun, hend, hW, hsame, ce, hce, hO⟩ := X₁.ctorThrowS hexec htr (own := own) (cls := cls) (names := names) (ic := ic) hown' hcls hnames h (fun x hx => nomatch hx) hfX hkX hcellA (by rw [hhp, hT]; exact Nat.le_refl _) (msg := .ref sa) rfl
    (g := { method := m, pc := pc + 7, locals := ls, stack := .ref sa :: .ref T.heap.size :: .ref T.heap.size :: rest, locked := none }) rfl hsize rfl rfl (rest := rest) rfl
    (by rw [hb]; exact d7) (by rw [hb]; exact d10) hout hRframes (by simp only [List.map_cons, List.sum_cons, hcat]; omega) hlocks
  obtain ⟨f1, f2⟩ := vx_frame hsame
  rw [hhp] at f1 f2
  have hWs : s.WarmedH U.vm := State.WarmedH.trans hW0 hW
  have hcl : s.vm.findClass cls = some ce.cls := by
    have h9 := hO.cls
    rw [hvm] at h9
    exact h9
  have hall : s.sameButNew ({ U with vm := s.vm } : State) locs mc ms := by
    subst hA
    obtain ⟨e1, e2⟩ := hsame
    rw [State.setFrames_setFrames] at e1
    have h2 : (T.setVm s.vm).sameButNew ({ U with vm := s.vm } : State) [] (0 + 1) (0 + 6) := ⟨e1, e2⟩
    have h3 := X.same.trans h2
    rw [List.append_nil] at h3
    exact h3.mono hc hs
  refine ⟨U, ?_, .threw T.heap.size, hrun, hend, Or.inr ⟨T.heap.size, rfl, cls, ce, locs, hx U hWs.alike f1 (fun q hq => f2 q hq (fun z hz => nomatch hz)), hce, hO.vm, hcl, hWs, hall, hf⟩⟩
  refine st1 _ ?_
  show Steps p.tables e below (T1.setTop { method := m, pc := pc + 3, locals := ls, stack := .ref T.heap.size :: rest, locked := none }) _
  jvm_step X₁.here [X₁.here.top, hexec, d3', Value.category]
  exact X₁.ldcStringW hexec (own := own) (text := text) (index := is) (a := sa) hown' hstr'.1 hstr'.2
    (g := { method := m, pc := pc + 4, locals := ls, stack := .ref T.heap.size :: .ref T.heap.size :: rest, locked := none }) rfl d4' _ hsteps
end Ends
section Bodies
variable {l : Launch}
theorem vx_ofW {y : MethodName} {ws ws' : List Cond} {rm : Room} {Pc : Array Value → State → Prop} {Qc : Array Value → State → Outcome → State → Prop} {XC : String → State → State → Prop} {mc ms : Nat} {free : Addr → Prop} {cc : ByteArray} {maxL : Nat} {ret : Option FieldType}
    (hy : plainName y.cls = true) (hw : ws = Cond.code y cc maxL ret :: ws')
    (body : ∀ p e s m args below meth c s₁, BodyLoose p l y (headSpec ws rm) cc maxL ret e s m args below meth c s₁ → c.maxLocals = maxL → (∀ x ∈ c.exceptionTable.toList, False) → Pc args s →
      W p l e (headSpec ws rm).room s m args below meth c s.heap [] 0 0 (vx_MQ below Qc XC args s mc ms free) (entryFrame m args maxL)) : vx_Met l y ws rm Pc Qc XC mc ms free := by
  refine MetFree.of_bodyS (code := cc) (maxLocals := maxL) (ret := ret) hy ?_ ?_
  · intro args s m h hn
    obtain ⟨meth, c, h1, h2, h3, h4, h5, h6, -, -⟩ := Cond.code_spec hn (atoms_spec (ws := ws) h _ (by rw [hw]; exact List.mem_cons_self))
    exact ⟨meth, c, h1, h2, h3, h4, h5, h6⟩
  · intro p e s m args below meth c s₁ B hml hP _
    have hh0 : s₁.heap = s.heap := by rw [B.state]; rfl
    have ht : ∀ x ∈ c.exceptionTable.toList, False := by
      obtain ⟨meth9, c9, h1, h2, -, -, -, -, h7, -⟩ := Cond.code_spec B.named (atoms_spec (ws := ws) B.pre _ (by rw [hw]; exact List.mem_cons_self))
      cases Option.some.inj (h1.symm.trans B.method)
      cases Option.some.inj (h2.symm.trans (Stand.of_body B).code)
      intro x hx
      rw [Array.isEmpty_iff.mp h7] at hx
      cases hx
    obtain ⟨t, a1, o, b1, b2, b3⟩ := body p e s m args below meth c s₁ B hml ht hP s₁ hh0 (Stand.of_body B)
    exact ⟨t, o, a1, b1, b2, b3⟩
/-- the table of a body with handlers -/
theorem vx_table {p : Program} {x y : MethodName} {S : Spec} {cc bytes : ByteArray} {maxL maxL' : Nat} {ret ret' : Option FieldType} {e : Env} {s s₁ : State} {m : MethodId} {args : Array Value} {below : List Frame} {meth : Method} {c : Code} {hh : List (Nat × Nat × Nat × Nat)}
    (B : BodyLoose p l y S cc maxL ret e s m args below meth c s₁) (h : (Cond.codeWith y bytes maxL' ret' hh).before args s = true) : c.exceptionTable.toList = tableOf hh := by
  obtain ⟨m9, meth9, c9, hn9, h1, h2, -, -, h6, -⟩ := Cond.codeWith_spec h
  cases Option.some.inj (hn9.symm.trans B.named)
  cases Option.some.inj (h1.symm.trans B.method)
  cases Option.some.inj (h2.symm.trans (Stand.of_body B).code)
  rw [← h6, table_eq]
end Bodies
end VXA
/-! ===== END ===== -/
/-! ===== BEGIN a static call of a method with an exception table ===== -/
section VXS
variable {p : Program} {l : Launch} {e : Env} {R : Room} {s : State} {m : MethodId} {args : Array Value} {below : List Frame} {meth : Method} {c : Code} {T : State} {H : Heap} {locs : List Loc} {cells slots : Nat}
abbrev vx_CSW (R : Room) (s : State) (args : Array Value) (own : String) (index : Nat) (y : MethodName) (bytes : ByteArray) (maxL : Nat) (ret : Option FieldType) (hh : List (Nat × Nat × Nat × Nat)) (ws : List Cond) (rm : Room) (mc ms n : Nat) : Prop :=
  (rm.cells = mc ∧ rm.slots = ms ∧ rm.frames + 1 ≤ R.frames ∧ 8 + (maxL + 11) + rm.locals ≤ R.locals ∧ (∀ w ∈ ws, ∀ (a' : Array Value) (U : State), s.WarmedH U.vm → w.before a' U = true) ∧ Cond.codeWith y bytes maxL ret hh ∈ ws) ∧
  (Cond.codeWith y bytes maxL ret hh).before args s = true ∧ (Cond.initialized y.cls).before args s = true ∧ (y.cls ≠ "java/lang/invoke/MethodHandle" ∧ y.cls ≠ "java/lang/invoke/VarHandle") ∧
  (∀ sig, parseMethodDescriptor y.desc = some sig → n = sig.parameters.length) ∧ (Cond.methodLink own index y).before args s = true ∧ (Cond.static y).before args s = true
theorem vx_cwSW {own : String} {index maxL mc ms : Nat} {y : MethodName} {bytes : ByteArray} {ret : Option FieldType} {hh : List (Nat × Nat × Nat × Nat)} {Ts ws ws' : List Cond} {rm : Room} (n : Nat) (ht : ∀ w ∈ Ts, w.before args s = true) (hT : GoodIn Ts (va_wsS own index y ws)) (hw : ws = Cond.codeWith y bytes maxL ret hh :: ws') (hrc : rm.cells = mc) (hrs : rm.slots = ms)
    (hd : y.cls ≠ "java/lang/invoke/MethodHandle" ∧ y.cls ≠ "java/lang/invoke/VarHandle" ∧ (parseMethodDescriptor y.desc).map (fun d => d.parameters.length) = some n) (hR : rm.frames + 1 ≤ R.frames ∧ 8 + (maxL + 11) + rm.locals ≤ R.locals) :
    vx_CSW R s args own index y bytes maxL ret hh ws rm mc ms n := by
  have ok : ∀ w ∈ va_wsS own index y ws, w.before args s = true := fun w h => ht w (hT w h).1
  have hG : GoodIn Ts ws := fun w h => hT w (by unfold va_wsS; exact List.mem_append_right _ h)
  have hc : Cond.codeWith y bytes maxL ret hh ∈ ws := by rw [hw]; exact List.mem_cons_self
  refine ⟨⟨hrc, hrs, hR.1, hR.2, pay_in ht hG, hc⟩, ht _ (hG _ hc).1, ok _ (by simp [va_wsS]), ⟨hd.1, hd.2.1⟩, fun sig h => ?_, ok _ (by simp [va_wsS]), ok _ (by simp [va_wsS])⟩
  have h2 := hd.2.2
  rw [h] at h2
  exact (Option.some.inj h2).symm
theorem vx_callSW (X : Stand p l e R s m args below meth c T locs cells slots) (hexec : p.tables.exec = Jvm.exec) {own : String} {index : Nat} {y : MethodName} {bytes : ByteArray} {maxL : Nat} {ret : Option FieldType} {hh : List (Nat × Nat × Nat × Nat)}
    (hown : s.vm.findClass own = some m.cls) (hlink : (Cond.methodLink own index y).before args s = true) (hstat : (Cond.static y).before args s = true) (hinit : (Cond.initialized y.cls).before args s = true)
    (hcode : (Cond.codeWith y bytes maxL ret hh).before args s = true) (hy : y.cls ≠ "java/lang/invoke/MethodHandle" ∧ y.cls ≠ "java/lang/invoke/VarHandle")
    {W9 : Nat} {Pre : Pt → Array Value → Prop} {Post : Pt → Array Value → Option Value → Pt → Prop} (hK : Back l R p e below s args y 3 W9 Pre Post)
    {g : JFrame} (hg : g.method = m) (hsize : g.locals.size = c.maxLocals) {argsL rest : List Value} (hlen : ∀ sig, parseMethodDescriptor y.desc = some sig → argsL.length = sig.parameters.length)
    (hstack : g.stack = argsL.reverse ++ rest) (hW : 2 * g.monitorRoom + (rest.map fun v => v.category).sum ≤ W9) (hdg : decode c.code g.pc = .ok (.invokestatic index, 3))
    (hpre : ∀ vm₁, s.WarmedH vm₁ → Pre ⟨T.setVm vm₁, locs, cells, slots⟩ argsL.toArray) :
    ∃ (v : Option Value) (vm₁ : Vm) (B : Pt), s.WarmedH vm₁ ∧ Stand p l e R s m args below meth c B.U B.locs B.cells B.slots ∧ Post ⟨T.setVm vm₁, locs, cells, slots⟩ argsL.toArray v B ∧
      ∀ target, Steps p.tables e below (B.U.setTop { g with pc := g.pc + 3, stack := v.toList ++ rest }) target → Steps p.tables e below (T.setTop g) target := by
  obtain ⟨mk, methM, cM, hnamed, hmethM, -, -, -, -, -, -, hsigM⟩ := Cond.codeWith_spec hcode
  have hstatic : methM.isStatic = true := Cond.static_spec hnamed hmethM hstat
  obtain ⟨kP, hkP, -⟩ := className_of_methodNamed hnamed
  have hinitP : kP.init = .initialized := Cond.initialized_spec (findClass_of_methodNamed hnamed) hkP hinit
  obtain ⟨vm₁, X₁, hstep₁⟩ := X.invokestatic hexec hown hlink hnamed hmethM hstatic hkP hinitP hy (g := g) hg (argsL := argsL) (rest := rest) (hlen _ hsigM) hstack hdg
  obtain ⟨v, B, X', hpost, hsteps⟩ := hK m meth c ⟨T.setVm vm₁, locs, cells, slots⟩ { g with stack := rest } (.invokestatic index) mk argsL.toArray X₁ hg hsize hdg hW (X₁.named hnamed) (hpre vm₁ X₁.warmed)
  exact ⟨v, vm₁, B, X₁.warmed, X', hpost, fun target h => hstep₁ _ fun acts => by rw [doInvoke_state]; exact hsteps.trans h⟩
theorem vx_runSW {y : MethodName} {bytes cc : ByteArray} {maxL nL mc ms n index : Nat} {ret : Option FieldType} {hh : List (Nat × Nat × Nat × Nat)} {ws : List Cond} {rm : Room} {Pc : Array Value → State → Prop} {Qc : Array Value → State → Outcome → State → Prop} {free : Addr → Prop} {Ts : List Cond} {own : String} {As rest : List Value} {g : JFrame}
    (S : CallFix p m c cc nL s args Ts own) (hM : Met l y ws rm Pc Qc mc ms free) (cw : vx_CSW R s args own index y bytes maxL ret hh ws rm mc ms n) (hp : PreS s H Pc As)
    (hg : g.method = m) (hn : As.length = n) (hsize : g.locals.size = nL) (hstack : g.stack = As.reverse ++ rest) (hW : 2 * g.monitorRoom + (rest.map fun v => v.category).sum ≤ 8) (hdg : decode cc g.pc = .ok (.invokestatic index, 3)) (hf : cells + mc ≤ R.cells ∧ slots + ms ≤ R.slots) :
    va_Run p l e R s m args below meth c H locs cells slots mc ms g rest (Qc As.toArray) (free) := by
  obtain ⟨⟨hrc, hrs, hfr, hlo, hws, hcw⟩, hcode, hini, hy, hlen, hl, hstt⟩ := cw
  have hK : Back l R p e below s args y 3 8 (PreOf R mc ms Pc) (PostOf Qc mc ms free) := va_backW (hh := hh) (bytes := bytes) (maxL := maxL) (ret := ret) hM hp.1 hrc hrs hfr hlo hws hcw (fun a' U hW => word_at hW (Or.inl (by first | rfl | simp [Cond.onTables, Cond.keeps, Cond.steady])) hini)
  obtain ⟨hx, hb, hml, ho, -⟩ := S
  intro T hT X
  obtain ⟨v, vm₁, ⟨U', l2, c2, s2⟩, hW₁, X', ⟨g', mk, t, L, e1, e2, hq, h1, hL, h2, h3⟩, st⟩ := vx_callSW X hx (hh := hh) (bytes := bytes) (maxL := maxL) (ret := ret) ho hl hstt hini hcode hy hK hg (hsize.trans hml.symm) (argsL := As) (rest := rest) (fun sig h => hn.trans (hlen sig h)) hstack hW (by rw [hb]; exact hdg)
    (fun vm₁ hW₁ => ⟨hf.1, hf.2, hp.2 (T.setVm vm₁) hT hW₁⟩)
  dsimp only [Pt.U, Pt.locs, Pt.cells, Pt.slots] at X' e1 e2 h1 h2 h3 st
  subst h1; subst h2; subst h3
  exact ⟨v, (T.setVm vm₁).calling g' mk As.toArray, t, U', L, hT, X', hL, e1, e2, hq, st⟩
/-- not caught here, past rows that name other classes: it goes on to the caller -/
theorem vx_outP {p : Program} {l : Launch} {e : Env} {R : Room} {s : State} {m : MethodId} {args : Array Value} {below : List Frame} {meth : Method} {c : Code} {H : Heap} {locs : List Loc} {cells slots : Nat} {free : Addr → Prop} {ls : Array Slot} {rest : List Value} {Qc : Array Value → State → Outcome → State → Prop} {XC : String → State → State → Prop}
    {pc : Nat} {own E : String} {ce : Cell} {q : Addr} {mc ms : Nat} (hown : s.vm.findClass own = some m.cls) (hlocks : meth.locks = false)
    (hpass : ∀ z ∈ c.exceptionTable.toList, covers z pc = false ∨ (z.catchType ≠ 0 ∧ ∃ nm : String, (Cond.classLink own z.catchType nm).before args s = true ∧ va_Nc E nm s)) (hcell : H[q]? = some ce) (hv : ce.vm = .none) (hcl : s.vm.findClass E = some ce.cls)
    (hx : ∀ t : State, t.heap = H → s.vm.Alike t.vm → XC E s t) (hf : ∀ z ∈ locs, free z.base) (hc : cells ≤ mc) (hs : slots ≤ ms) :
    vx_W p l e R s m args below meth c H locs cells slots (vx_MQ below Qc XC args s mc ms free) (F0 m pc ls rest) q := by
  intro T hT X
  have hpl : e.platform.magicAccessors = ({} : Platform).magicAccessors := by rw [X.admits.platform]
  obtain ⟨vm', hW', X', st⟩ := X.outThrough hlocks q (g := F0 m pc ls rest) rfl rfl rfl (cell := ce) (by rw [hT]; exact hcell) (by rw [hv]; rfl)
    (by obtain ⟨k9, h9, -⟩ := Vm.findClass_spec hcl; exact ⟨k9, h9⟩) (fun z hz => by
      rcases hpass z hz with h | ⟨hz0, nm, hl1, hn1⟩
      · exact Or.inl h
      · obtain ⟨c6, hc6, hcl6⟩ := Cond.classLink_spec hown hl1 e.platform hpl
        obtain ⟨a8, b8, h1, h2, h3⟩ := hn1
        cases Option.some.inj (h1.symm.trans hcl)
        cases Option.some.inj (h2.symm.trans hc6)
        exact Or.inr ⟨hz0, _, hcl6, h3⟩)
  obtain ⟨g₀, hfr⟩ := X'.frames_eq
  have hcell9 : ((T.setVm vm').setFrames (.throwing q :: below)).heap[q]? = some ce := by
    show T.heap[q]? = some ce
    rw [hT]; exact hcell
  have hend : Ended ((T.setVm vm').setFrames (.throwing q :: below)) below (.threw q) := State.frames_setFrames _ (State.cur_lt_of_frames hfr)
  refine ⟨(T.setVm vm').setFrames (.throwing q :: below), ?_, .threw q, X'.here.running, hend, Or.inr ⟨q, rfl, E, ce, locs, hx _ hT (X'.ends _).1.alike, hcell9, hv, hcl, (X'.ends _).1, (X'.ends _).2.mono hc hs, hf⟩⟩
  rw [X.pushThrowing_eq]
  exact st
/-- a thing of a world lies in the heap -/
theorem vx_lt {D : va_G} {cl : List vw_C} {ws : va_W} {H1 : Heap} (h : va_P D cl ws H1) {k : Nat} {q : Nat × va_E} (hk : ws[k]? = some q) : q.1 < H1.size := (h k q hk).lt
end VXS
/-! ===== END ===== -/
/-! ===== BEGIN methods with a table of their own: called by a name, returning or throwing ===== -/
section VXH
/-! vx_backW, vx_callVX, vx_callSX, vx_callVW, vx_runVW, vx_runVX, vx_runSX, vx_ofWH follow the same proofs as their sisters above (Free/Laws.lean, Shelf42/LK1.lean); vx_outP calls Shelf42/NT130.lean (outThrough). -/
section
variable {l : Launch} {R : Room} {p : Program} {e : Env} {below : List Frame} {s : State} {sargs : Array Value} {y : MethodName} {len W9 : Nat}
theorem vx_backW {ws : List Cond} {rm : Room} {Pc : Array Value → State → Prop} {Qc : Array Value → State → Outcome → State → Prop} {XC : String → State → State → Prop} {mc ms : Nat} {free : Addr → Prop} {bytes : ByteArray} {maxL : Nat} {ret : Option FieldType} {hh : List (Nat × Nat × Nat × Nat)}
    (hM : vx_Met l y ws rm Pc Qc XC mc ms free) (hblind : FrameBlind Pc) (hrc : rm.cells = mc) (hrs : rm.slots = ms)
    (hframes : rm.frames + 1 ≤ R.frames) (hlocals : W9 + (maxL + 11) + rm.locals ≤ R.locals)
    (hws : ∀ w ∈ ws, ∀ a' U, s.WarmedH U.vm → w.before a' U = true) (hcode : Cond.codeWith y bytes maxL ret hh ∈ ws) (hinit : ∀ a' U, s.WarmedH U.vm → (Cond.initialized y.cls).before a' U = true) :
    vx_Back l R p e below s sargs y len W9 (PreOf R mc ms Pc) (PostOf Qc mc ms free) (vx_Post XC mc ms free) := by
  intro m meth c A g ig mk a X hg hsize hdg hW hn hp
  have h1 : (headSpec ws rm).pre.before a A.U = true := atoms_intro fun w hw => hws w hw _ _ X.warmed
  have h2 : (Cond.codeWith y bytes maxL ret hh).before a A.U = true := hws _ hcode _ _ X.warmed
  have h3 : (Cond.initialized y.cls).before a A.U = true := hinit _ _ X.warmed
  have h4 : A.cells + (headSpec ws rm).room.cells ≤ R.cells := by rw [show (headSpec ws rm).room.cells = mc from hrc]; exact hp.1
  have h5 : A.slots + (headSpec ws rm).room.slots ≤ R.slots := by rw [show (headSpec ws rm).room.slots = ms from hrs]; exact hp.2.1
  have hPc : Pc a (A.U.calling g mk a) := hblind _ _ _ _ hp.2.2
  obtain ⟨U, Ls, c0, s0⟩ := A
  dsimp only [Pt.U, Pt.locs, Pt.cells, Pt.slots] at h1 h2 h3 h4 h5 X hn hPc ⊢
  obtain ⟨m9, methY, cY, hn9, hmY, hcY, -, hlY, -⟩ := Cond.codeWith_spec h2
  cases Option.some.inj (hn9.symm.trans hn)
  obtain ⟨kY, hkY, -⟩ := className_of_methodNamed hn
  have hinitY : kY.init = .initialized := Cond.initialized_spec (findClass_of_methodNamed hn) hkY h3
  have h : At U g.method c below := by rw [hg]; exact X.here
  have hlocals9 : W9 + (maxL + 11) + (headSpec ws rm).room.locals ≤ R.locals := hlocals
  have happ : (headSpec ws rm).appliesLoose y e.platform (U.calling g mk a) = true :=
    Spec.appliesLoose_calling (g := g) h hdg hn hkY hinitY
      (X.room_calling (g := g) (R' := (headSpec ws rm).room) hsize hmY hcY hframes (by rw [hlY]; omega) h4 h5) h1
  obtain ⟨mid, hmid⟩ := h.above
  have hfr : (U.setTop g).frames = (.java g :: mid) ++ below := by rw [State.frames_setTop' g h.top, hmid]; rfl
  obtain ⟨o, s₂, hsteps, -, hend, hq⟩ := Steps.callFree hM p X.admits X.cas X.clock (acts := []) hfr happ hPc trivial
  have hq' : vx_Q Qc XC mc ms free a (U.calling g mk a) o s₂ := hq
  rw [State.frames_setTop' g h.top] at hend
  obtain ⟨g₀, hg0⟩ := Option.isSome_iff_exists.mp h.top
  obtain ⟨r, hr⟩ := State.topJava?_eq_some.mp hg0
  have hr' : (({ U with heap := s₂.heap, slotsUsed := s₂.slotsUsed } : State).setVm s₂.vm).frames = .java g₀ :: r := hr
  rcases hq' with ⟨hqc, L, hfe, hL⟩ | ⟨q, rfl, E, ce, L, hx, hce, hcv, hcl, hW₂, hsm, hL⟩
  · obtain ⟨⟨v, rfl⟩, hW₂, e2, q2, q3, q4, q5, q6⟩ := id hfe
    have e3 : s₂ = ({ (U.calling g mk a).setFrames s₂.frames with heap := s₂.heap, slotsUsed := s₂.slotsUsed } : State).setVm s₂.vm := by
      have : s₂ = ({ s₂ with vm := (U.calling g mk a).vm } : State).setVm s₂.vm := rfl
      rw [e2] at this
      exact this
    obtain ⟨c₂, i₂, len₂, hc₂, hd₂, hf₂⟩ := hend
    have hW' : U.WarmedH s₂.vm := hW₂
    have hcc : c₂ = c := by
      have h1 : s₂.code? g.method = U.code? g.method := by
        rw [State.code?_eq, State.code?_eq, hW'.alike.method?]
      exact Option.some.inj (hc₂.symm.trans (h1.trans h.code))
    subst hcc
    have hlen : len₂ = len := by rw [hdg] at hd₂; cases hd₂; rfl
    subst hlen
    have hs₂ : s₂ = (({ U with heap := s₂.heap, slotsUsed := s₂.slotsUsed } : State).setVm s₂.vm).setTop { g with pc := g.pc + len₂, stack := v.toList ++ g.stack } := by
      refine e3.trans ?_
      rw [hf₂, State.calling_eq h.top, State.setFrames_setFrames, State.setTop_of_frames _ hr', hr]
      rfl
    have hsame : U.sameButNew ({ U with heap := s₂.heap, slotsUsed := s₂.slotsUsed } : State) L mc ms := by
      refine ⟨?_, q2, q3, q4, q5, q6⟩
      obtain ⟨t, ht, -⟩ := State.frames_cons hr
      show ({ U with heap := s₂.heap, slotsUsed := s₂.slotsUsed } : State) = { U.setFrames U.frames with heap := s₂.heap, slotsUsed := s₂.slotsUsed }
      rw [State.setFrames_self ht]
    subst hg
    refine Or.inl ⟨v, ⟨(({ U with heap := s₂.heap, slotsUsed := s₂.slotsUsed } : State).setVm s₂.vm), Ls ++ L, c0 + mc, s0 + ms⟩,
      ⟨X.admits, X.cas, X.clock, X.frames, X.room, X.hears, X.method, X.code, (X.here.setHeapUsed s₂.heap s₂.slotsUsed).setVm hW'.alike, X.tail, State.WarmedH.trans X.warmed hW', X.limits, X.bytes, X.same.trans (hsame.setVm s.vm)⟩,
      ⟨g, mk, s₂, L, rfl, rfl, hqc, rfl, hL, rfl, rfl⟩, ?_⟩
    show Steps p.tables e below _ ((({ U with heap := s₂.heap, slotsUsed := s₂.slotsUsed } : State).setVm s₂.vm).setTop { g with pc := g.pc + len₂, stack := v.toList ++ g.stack })
    rw [← hs₂]
    exact hsteps
  · obtain ⟨e2, q2, q3, q4, q5, q6⟩ := id hsm
    have e3 : s₂ = ({ (U.calling g mk a).setFrames s₂.frames with heap := s₂.heap, slotsUsed := s₂.slotsUsed } : State).setVm s₂.vm := by
      have : s₂ = ({ s₂ with vm := (U.calling g mk a).vm } : State).setVm s₂.vm := rfl
      rw [e2] at this
      exact this
    have hf₂ : s₂.frames = .throwing q :: .java g :: U.frames.tail := hend
    have hW' : U.WarmedH s₂.vm := hW₂
    have hs₂ : s₂ = ((({ U with heap := s₂.heap, slotsUsed := s₂.slotsUsed } : State).setVm s₂.vm).setTop g).pushFrame (.throwing q) := by
      refine e3.trans ?_
      rw [hf₂, State.calling_eq h.top, State.setFrames_setFrames, State.pushFrame, State.frames_setTop _ hr', State.setTop_of_frames _ hr', State.setFrames_setFrames, hr]
      rfl
    have hsame : U.sameButNew ({ U with heap := s₂.heap, slotsUsed := s₂.slotsUsed } : State) L mc ms := by
      refine ⟨?_, q2, q3, q4, q5, q6⟩
      obtain ⟨t, ht, -⟩ := State.frames_cons hr
      show ({ U with heap := s₂.heap, slotsUsed := s₂.slotsUsed } : State) = { U.setFrames U.frames with heap := s₂.heap, slotsUsed := s₂.slotsUsed }
      rw [State.setFrames_self ht]
    subst hg
    refine Or.inr ⟨q, ⟨(({ U with heap := s₂.heap, slotsUsed := s₂.slotsUsed } : State).setVm s₂.vm), Ls ++ L, c0 + mc, s0 + ms⟩,
      ⟨X.admits, X.cas, X.clock, X.frames, X.room, X.hears, X.method, X.code, (X.here.setHeapUsed s₂.heap s₂.slotsUsed).setVm hW'.alike, X.tail, State.WarmedH.trans X.warmed hW', X.limits, X.bytes, X.same.trans (hsame.setVm s.vm)⟩,
      ⟨g, mk, s₂, L, E, ce, rfl, rfl, hx, hce, hcv, hcl, rfl, hL, rfl, rfl⟩, ?_⟩
    show Steps p.tables e below _ (((({ U with heap := s₂.heap, slotsUsed := s₂.slotsUsed } : State).setVm s₂.vm).setTop g).pushFrame (.throwing q))
    rw [← hs₂]
    exact hsteps
end
variable {p : Program} {l : Launch} {e : Env} {R : Room} {s : State} {m : MethodId} {args : Array Value} {below : List Frame} {meth : Method} {c : Code} {T : State} {H : Heap} {locs : List Loc} {cells slots : Nat}
theorem vx_callVX (X : Stand p l e R s m args below meth c T locs cells slots) (hexec : p.tables.exec = Jvm.exec) {own C : String} {index : Nat} {y : MethodName} {bytes : ByteArray} {maxL : Nat} {ret : Option FieldType} {hh : List (Nat × Nat × Nat × Nat)}
    (hown : s.vm.findClass own = some m.cls) (hlink : (Cond.methodLink own index y).before args s = true) (hinst : (Cond.instanceMethod y).before args s = true) (hsel : (Cond.selects C y y).before args s = true)
    (hcode : (Cond.codeWith y bytes maxL ret hh).before args s = true) (hy : y.cls ≠ "java/lang/invoke/MethodHandle" ∧ y.cls ≠ "java/lang/invoke/VarHandle")
    {W9 : Nat} {Pre : Pt → Array Value → Prop} {Post : Pt → Array Value → Option Value → Pt → Prop} {PostX : Pt → Array Value → Addr → Pt → Prop} (hK : vx_Back l R p e below s args y 3 W9 Pre Post PostX)
    {b : Addr} {cellB : Cell} (hcell : T.heap[b]? = some cellB) (hobj : cellB.vm.isStatics = false) (hcls : s.vm.findClass C = some cellB.cls)
    {g : JFrame} (hg : g.method = m) (hsize : g.locals.size = c.maxLocals) {argsL rest : List Value} (hlen : ∀ sig, parseMethodDescriptor y.desc = some sig → argsL.length = sig.parameters.length)
    (hstack : g.stack = argsL.reverse ++ .ref b :: rest) (hW : 2 * g.monitorRoom + (rest.map fun v => v.category).sum ≤ W9) (hdg : decode c.code g.pc = .ok (.invokevirtual index, 3))
    (hpre : ∀ vm₁, s.WarmedH vm₁ → Pre ⟨T.setVm vm₁, locs, cells, slots⟩ (Value.ref b :: argsL).toArray) :
    (∃ (v : Option Value) (vm₁ : Vm) (B : Pt), s.WarmedH vm₁ ∧ Stand p l e R s m args below meth c B.U B.locs B.cells B.slots ∧ Post ⟨T.setVm vm₁, locs, cells, slots⟩ (Value.ref b :: argsL).toArray v B ∧
      ∀ target, Steps p.tables e below (B.U.setTop { g with pc := g.pc + 3, stack := v.toList ++ rest }) target → Steps p.tables e below (T.setTop g) target) ∨
    (∃ (q : Addr) (vm₁ : Vm) (B : Pt), s.WarmedH vm₁ ∧ Stand p l e R s m args below meth c B.U B.locs B.cells B.slots ∧ PostX ⟨T.setVm vm₁, locs, cells, slots⟩ (Value.ref b :: argsL).toArray q B ∧
      Steps p.tables e below (T.setTop g) ((B.U.setTop { g with stack := rest }).pushFrame (.throwing q))) := by
  obtain ⟨mk, methM, hnamed, hmethM, hstM, habM⟩ := Cond.instanceMethod_spec hinst
  obtain ⟨m8, methM', cM, hn8, hmethM', -, -, -, -, -, -, hsigM⟩ := Cond.codeWith_spec hcode
  cases Option.some.inj (hn8.symm.trans hnamed)
  cases hmethM.symm.trans hmethM'
  obtain ⟨c2, r2, m2, q1, q2, q3, q4, kP, hkP, hkPi⟩ := Cond.selects_spec hsel
  cases hcls.symm.trans q1
  cases (State.methodFound?_of_named hnamed hy).symm.trans q2
  cases hnamed.symm.trans q3
  have hselP : selectMethod e.platform s.vm cellB.cls mk = .method mk := by rw [Launch.admits_selectMethod X.admits]; exact q4
  obtain ⟨vm₁, X₁, hstep₁⟩ := X.invokevirtual hexec hown hlink hnamed hmethM hstM hkP hkPi hy (a := b) (cell := cellB) hcell
    (fun z h => by rw [h] at hobj; cases hobj) hselP hmethM habM hkP hkPi (g := g) hg (argsL := argsL) (rest := rest) (hlen _ hsigM) hstack hdg
  rcases hK m meth c ⟨T.setVm vm₁, locs, cells, slots⟩ { g with stack := rest } (.invokevirtual index) mk (Value.ref b :: argsL).toArray X₁ hg hsize hdg hW (X₁.named hnamed) (hpre vm₁ X₁.warmed) with ⟨v, B, X', hpost, hsteps⟩ | ⟨q, B, X', hpost, hsteps⟩
  · exact Or.inl ⟨v, vm₁, B, X₁.warmed, X', hpost, fun target h => hstep₁ _ fun acts => by rw [doInvoke_state]; exact hsteps.trans h⟩
  · exact Or.inr ⟨q, vm₁, B, X₁.warmed, X', hpost, hstep₁ _ fun acts => by rw [doInvoke_state]; exact hsteps⟩
theorem vx_callSX (X : Stand p l e R s m args below meth c T locs cells slots) (hexec : p.tables.exec = Jvm.exec) {own : String} {index : Nat} {y : MethodName} {bytes : ByteArray} {maxL : Nat} {ret : Option FieldType} {hh : List (Nat × Nat × Nat × Nat)}
    (hown : s.vm.findClass own = some m.cls) (hlink : (Cond.methodLink own index y).before args s = true) (hstat : (Cond.static y).before args s = true) (hinit : (Cond.initialized y.cls).before args s = true)
    (hcode : (Cond.codeWith y bytes maxL ret hh).before args s = true) (hy : y.cls ≠ "java/lang/invoke/MethodHandle" ∧ y.cls ≠ "java/lang/invoke/VarHandle")
    {W9 : Nat} {Pre : Pt → Array Value → Prop} {Post : Pt → Array Value → Option Value → Pt → Prop} {PostX : Pt → Array Value → Addr → Pt → Prop} (hK : vx_Back l R p e below s args y 3 W9 Pre Post PostX)
    {g : JFrame} (hg : g.method = m) (hsize : g.locals.size = c.maxLocals) {argsL rest : List Value} (hlen : ∀ sig, parseMethodDescriptor y.desc = some sig → argsL.length = sig.parameters.length)
    (hstack : g.stack = argsL.reverse ++ rest) (hW : 2 * g.monitorRoom + (rest.map fun v => v.category).sum ≤ W9) (hdg : decode c.code g.pc = .ok (.invokestatic index, 3))
    (hpre : ∀ vm₁, s.WarmedH vm₁ → Pre ⟨T.setVm vm₁, locs, cells, slots⟩ argsL.toArray) :
    (∃ (v : Option Value) (vm₁ : Vm) (B : Pt), s.WarmedH vm₁ ∧ Stand p l e R s m args below meth c B.U B.locs B.cells B.slots ∧ Post ⟨T.setVm vm₁, locs, cells, slots⟩ argsL.toArray v B ∧
      ∀ target, Steps p.tables e below (B.U.setTop { g with pc := g.pc + 3, stack := v.toList ++ rest }) target → Steps p.tables e below (T.setTop g) target) ∨
    (∃ (q : Addr) (vm₁ : Vm) (B : Pt), s.WarmedH vm₁ ∧ Stand p l e R s m args below meth c B.U B.locs B.cells B.slots ∧ PostX ⟨T.setVm vm₁, locs, cells, slots⟩ argsL.toArray q B ∧
      Steps p.tables e below (T.setTop g) ((B.U.setTop { g with stack := rest }).pushFrame (.throwing q))) := by
  obtain ⟨mk, methM, cM, hnamed, hmethM, -, -, -, -, -, -, hsigM⟩ := Cond.codeWith_spec hcode
  have hstatic : methM.isStatic = true := Cond.static_spec hnamed hmethM hstat
  obtain ⟨kP, hkP, -⟩ := className_of_methodNamed hnamed
  have hinitP : kP.init = .initialized := Cond.initialized_spec (findClass_of_methodNamed hnamed) hkP hinit
  obtain ⟨vm₁, X₁, hstep₁⟩ := X.invokestatic hexec hown hlink hnamed hmethM hstatic hkP hinitP hy (g := g) hg (argsL := argsL) (rest := rest) (hlen _ hsigM) hstack hdg
  rcases hK m meth c ⟨T.setVm vm₁, locs, cells, slots⟩ { g with stack := rest } (.invokestatic index) mk argsL.toArray X₁ hg hsize hdg hW (X₁.named hnamed) (hpre vm₁ X₁.warmed) with ⟨v, B, X', hpost, hsteps⟩ | ⟨q, B, X', hpost, hsteps⟩
  · exact Or.inl ⟨v, vm₁, B, X₁.warmed, X', hpost, fun target h => hstep₁ _ fun acts => by rw [doInvoke_state]; exact hsteps.trans h⟩
  · exact Or.inr ⟨q, vm₁, B, X₁.warmed, X', hpost, hstep₁ _ fun acts => by rw [doInvoke_state]; exact hsteps⟩
theorem vx_callVW (X : Stand p l e R s m args below meth c T locs cells slots) (hexec : p.tables.exec = Jvm.exec) {own C : String} {index : Nat} {y : MethodName} {bytes : ByteArray} {maxL : Nat} {ret : Option FieldType} {hh : List (Nat × Nat × Nat × Nat)}
    (hown : s.vm.findClass own = some m.cls) (hlink : (Cond.methodLink own index y).before args s = true) (hinst : (Cond.instanceMethod y).before args s = true) (hsel : (Cond.selects C y y).before args s = true)
    (hcode : (Cond.codeWith y bytes maxL ret hh).before args s = true) (hy : y.cls ≠ "java/lang/invoke/MethodHandle" ∧ y.cls ≠ "java/lang/invoke/VarHandle")
    {W9 : Nat} {Pre : Pt → Array Value → Prop} {Post : Pt → Array Value → Option Value → Pt → Prop} (hK : Back l R p e below s args y 3 W9 Pre Post)
    {b : Addr} {cellB : Cell} (hcell : T.heap[b]? = some cellB) (hobj : cellB.vm.isStatics = false) (hcls : s.vm.findClass C = some cellB.cls)
    {g : JFrame} (hg : g.method = m) (hsize : g.locals.size = c.maxLocals) {argsL rest : List Value} (hlen : ∀ sig, parseMethodDescriptor y.desc = some sig → argsL.length = sig.parameters.length)
    (hstack : g.stack = argsL.reverse ++ .ref b :: rest) (hW : 2 * g.monitorRoom + (rest.map fun v => v.category).sum ≤ W9) (hdg : decode c.code g.pc = .ok (.invokevirtual index, 3))
    (hpre : ∀ vm₁, s.WarmedH vm₁ → Pre ⟨T.setVm vm₁, locs, cells, slots⟩ (Value.ref b :: argsL).toArray) :
    ∃ (v : Option Value) (vm₁ : Vm) (B : Pt), s.WarmedH vm₁ ∧ Stand p l e R s m args below meth c B.U B.locs B.cells B.slots ∧ Post ⟨T.setVm vm₁, locs, cells, slots⟩ (Value.ref b :: argsL).toArray v B ∧
      ∀ target, Steps p.tables e below (B.U.setTop { g with pc := g.pc + 3, stack := v.toList ++ rest }) target → Steps p.tables e below (T.setTop g) target := by
  obtain ⟨mk, methM, hnamed, hmethM, hstM, habM⟩ := Cond.instanceMethod_spec hinst
  obtain ⟨m8, methM', cM, hn8, hmethM', -, -, -, -, -, -, hsigM⟩ := Cond.codeWith_spec hcode
  cases Option.some.inj (hn8.symm.trans hnamed)
  cases hmethM.symm.trans hmethM'
  obtain ⟨c2, r2, m2, q1, q2, q3, q4, kP, hkP, hkPi⟩ := Cond.selects_spec hsel
  cases hcls.symm.trans q1
  cases (State.methodFound?_of_named hnamed hy).symm.trans q2
  cases hnamed.symm.trans q3
  have hselP : selectMethod e.platform s.vm cellB.cls mk = .method mk := by rw [Launch.admits_selectMethod X.admits]; exact q4
  obtain ⟨vm₁, X₁, hstep₁⟩ := X.invokevirtual hexec hown hlink hnamed hmethM hstM hkP hkPi hy (a := b) (cell := cellB) hcell
    (fun z h => by rw [h] at hobj; cases hobj) hselP hmethM habM hkP hkPi (g := g) hg (argsL := argsL) (rest := rest) (hlen _ hsigM) hstack hdg
  obtain ⟨v, B, X', hpost, hsteps⟩ := hK m meth c ⟨T.setVm vm₁, locs, cells, slots⟩ { g with stack := rest } (.invokevirtual index) mk (Value.ref b :: argsL).toArray X₁ hg hsize hdg hW (X₁.named hnamed) (hpre vm₁ X₁.warmed)
  exact ⟨v, vm₁, B, X₁.warmed, X', hpost, fun target h => hstep₁ _ fun acts => by rw [doInvoke_state]; exact hsteps.trans h⟩
abbrev vx_CVW (R : Room) (s : State) (args : Array Value) (own C : String) (index : Nat) (y : MethodName) (bytes : ByteArray) (maxL : Nat) (ret : Option FieldType) (hh : List (Nat × Nat × Nat × Nat)) (ws : List Cond) (rm : Room) (mc ms n : Nat) : Prop :=
  (rm.cells = mc ∧ rm.slots = ms ∧ rm.frames + 1 ≤ R.frames ∧ 8 + (maxL + 11) + rm.locals ≤ R.locals ∧ (∀ w ∈ ws, ∀ (a' : Array Value) (U : State), s.WarmedH U.vm → w.before a' U = true) ∧ Cond.codeWith y bytes maxL ret hh ∈ ws) ∧
  (Cond.codeWith y bytes maxL ret hh).before args s = true ∧ (Cond.initialized y.cls).before args s = true ∧ (y.cls ≠ "java/lang/invoke/MethodHandle" ∧ y.cls ≠ "java/lang/invoke/VarHandle") ∧
  (∀ sig, parseMethodDescriptor y.desc = some sig → n = sig.parameters.length) ∧ (Cond.methodLink own index y).before args s = true ∧ (Cond.instanceMethod y).before args s = true ∧ (Cond.selects C y y).before args s = true
theorem vx_cwVW {own C : String} {index maxL mc ms : Nat} {y : MethodName} {bytes : ByteArray} {ret : Option FieldType} {hh : List (Nat × Nat × Nat × Nat)} {Ts ws ws' : List Cond} {rm : Room} (n : Nat) (ht : ∀ w ∈ Ts, w.before args s = true) (hT : GoodIn Ts (wsV own index C y ws)) (hw : ws = Cond.codeWith y bytes maxL ret hh :: ws') (hrc : rm.cells = mc) (hrs : rm.slots = ms)
    (hd : y.cls = C ∧ y.cls ≠ "java/lang/invoke/MethodHandle" ∧ y.cls ≠ "java/lang/invoke/VarHandle" ∧ (parseMethodDescriptor y.desc).map (fun d => d.parameters.length) = some n) (hR : rm.frames + 1 ≤ R.frames ∧ 8 + (maxL + 11) + rm.locals ≤ R.locals) :
    vx_CVW R s args own C index y bytes maxL ret hh ws rm mc ms n := by
  obtain ⟨hC, hd⟩ := hd
  subst hC
  have ok : ∀ w ∈ wsV own index y.cls y ws, w.before args s = true := fun w h => ht w (hT w h).1
  have hG : GoodIn Ts ws := fun w h => hT w (by unfold wsV; exact List.mem_append_right _ h)
  have hc : Cond.codeWith y bytes maxL ret hh ∈ ws := by rw [hw]; exact List.mem_cons_self
  refine ⟨⟨hrc, hrs, hR.1, hR.2, pay_in ht hG, hc⟩, ht _ (hG _ hc).1, ok _ (by simp [wsV]), ⟨hd.1, hd.2.1⟩, fun sig h => ?_, ok _ (by simp [wsV]), ok _ (by simp [wsV]), ok _ (by simp [wsV])⟩
  have h2 := hd.2.2
  rw [h] at h2
  exact (Option.some.inj h2).symm
theorem vx_runVW {y : MethodName} {bytes cc : ByteArray} {maxL nL mc ms n index : Nat} {ret : Option FieldType} {hh : List (Nat × Nat × Nat × Nat)} {ws : List Cond} {rm : Room} {Pc : Array Value → State → Prop} {Qc : Array Value → State → Outcome → State → Prop} {free : Addr → Prop} {Ts : List Cond} {own C : String} {b : Addr} {As rest : List Value} {g : JFrame}
    (S : CallFix p m c cc nL s args Ts own) (hM : Met l y ws rm Pc Qc mc ms free) (cw : vx_CVW R s args own C index y bytes maxL ret hh ws rm mc ms n) (hp : PreV s H C b Pc As)
    (hg : g.method = m) (hn : As.length = n) (hsize : g.locals.size = nL) (hstack : g.stack = As.reverse ++ .ref b :: rest) (hW : 2 * g.monitorRoom + (rest.map fun v => v.category).sum ≤ 8) (hdg : decode cc g.pc = .ok (.invokevirtual index, 3)) (hf : cells + mc ≤ R.cells ∧ slots + ms ≤ R.slots) :
    va_Run p l e R s m args below meth c H locs cells slots mc ms g rest (Qc (Value.ref b :: As).toArray) free := by
  obtain ⟨⟨hrc, hrs, hfr, hlo, hws, hcw⟩, hcode, hini, hy, hlen, hl, hin, hse⟩ := cw
  have hK : Back l R p e below s args y 3 8 (PreOf R mc ms Pc) (PostOf Qc mc ms free) := va_backW (hh := hh) (bytes := bytes) (maxL := maxL) (ret := ret) hM hp.1 hrc hrs hfr hlo hws hcw (fun a' U hW => word_at hW (Or.inl (by first | rfl | simp [Cond.onTables, Cond.keeps, Cond.steady])) hini)
  obtain ⟨hx, hb, hml, ho, -⟩ := S
  obtain ⟨-, ⟨cellB, hcB, hoB, hclB⟩, hPc⟩ := hp
  intro T hT X
  obtain ⟨v, vm₁, ⟨U', l2, c2, s2⟩, hW₁, X', ⟨g', mk, t, L, e1, e2, hq, h1, hL, h2, h3⟩, st⟩ := vx_callVW X hx (C := C) (hh := hh) (bytes := bytes) (maxL := maxL) (ret := ret) ho hl hin hse hcode hy hK (by rw [hT]; exact hcB) hoB hclB hg (hsize.trans hml.symm) (argsL := As) (rest := rest) (fun sig h => hn.trans (hlen sig h)) hstack hW (by rw [hb]; exact hdg)
    (fun vm₁ hW₁ => ⟨hf.1, hf.2, hPc (T.setVm vm₁) hT hW₁⟩)
  dsimp only [Pt.U, Pt.locs, Pt.cells, Pt.slots] at X' e1 e2 h1 h2 h3 st
  subst h1; subst h2; subst h3
  exact ⟨v, (T.setVm vm₁).calling g' mk (Value.ref b :: As).toArray, t, U', L, hT, X', hL, e1, e2, hq, st⟩
section
variable {y : MethodName} {bytes cc : ByteArray} {maxL nL mc ms n index : Nat} {ret : Option FieldType} {ws : List Cond} {rm : Room} {Pc : Array Value → State → Prop} {Qc : Array Value → State → Outcome → State → Prop} {XC : String → State → State → Prop} {free : Addr → Prop} {Ts : List Cond} {own C : String} {b : Addr} {As rest : List Value} {g : JFrame}
theorem vx_runVX {hh : List (Nat × Nat × Nat × Nat)} (S : CallFix p m c cc nL s args Ts own) (hM : vx_Met l y ws rm Pc Qc XC mc ms free) (cw : vx_CVW R s args own C index y bytes maxL ret hh ws rm mc ms n) (hp : PreV s H C b Pc As)
    (hg : g.method = m) (hn : As.length = n) (hsize : g.locals.size = nL) (hstack : g.stack = As.reverse ++ .ref b :: rest) (hW : 2 * g.monitorRoom + (rest.map fun v => v.category).sum ≤ 8) (hdg : decode cc g.pc = .ok (.invokevirtual index, 3)) (hf : cells + mc ≤ R.cells ∧ slots + ms ≤ R.slots) :
    vx_Run p l e R s m args below meth c H locs cells slots mc ms g rest (Qc (Value.ref b :: As).toArray) XC free := by
  obtain ⟨⟨hrc, hrs, hfr, hlo, hws, hcw⟩, hcode, hini, hy, hlen, hl, hin, hse⟩ := cw
  have hK : vx_Back l R p e below s args y 3 8 (PreOf R mc ms Pc) (PostOf Qc mc ms free) (vx_Post XC mc ms free) := vx_backW (hh := hh) (bytes := bytes) (maxL := maxL) (ret := ret) hM hp.1 hrc hrs hfr hlo hws hcw (fun a' U hW => word_at hW (Or.inl (by first | rfl | simp [Cond.onTables, Cond.keeps, Cond.steady])) hini)
  obtain ⟨hx, hb, hml, ho, -⟩ := S
  obtain ⟨-, ⟨cellB, hcB, hoB, hclB⟩, hPc⟩ := hp
  intro T hT X
  rcases vx_callVX X hx (C := C) (hh := hh) (bytes := bytes) (maxL := maxL) (ret := ret) ho hl hin hse hcode hy hK (by rw [hT]; exact hcB) hoB hclB hg (hsize.trans hml.symm) (argsL := As) (rest := rest) (fun sig h => hn.trans (hlen sig h)) hstack hW (by rw [hb]; exact hdg)
    (fun vm₁ hW₁ => ⟨hf.1, hf.2, hPc (T.setVm vm₁) hT hW₁⟩) with ⟨v, vm₁, ⟨U', l2, c2, s2⟩, hW₁, X', ⟨g', mk, t, L, e1, e2, hq, h1, hL, h2, h3⟩, st⟩ | ⟨q, vm₁, ⟨U', l2, c2, s2⟩, hW₁, X', ⟨g', mk, t, L, E, ce, e1, e2, hq, hce, hcv, hcl, h1, hL, h2, h3⟩, st⟩
  · dsimp only [Pt.U, Pt.locs, Pt.cells, Pt.slots] at X' e1 e2 h1 h2 h3 st
    subst h1; subst h2; subst h3
    exact Or.inl ⟨v, (T.setVm vm₁).calling g' mk (Value.ref b :: As).toArray, t, U', L, hT, X', hL, e1, e2, hq, st⟩
  · dsimp only [Pt.U, Pt.locs, Pt.cells, Pt.slots] at X' e1 e2 h1 h2 h3 st hcl
    subst h1; subst h2; subst h3
    exact Or.inr ⟨q, (T.setVm vm₁).calling g' mk (Value.ref b :: As).toArray, t, U', L, E, ce, hT, X', hL, e1, e2, hq, hce, hcv, vx_cls hW₁ hcl, st⟩
theorem vx_runSX {hh : List (Nat × Nat × Nat × Nat)} (S : CallFix p m c cc nL s args Ts own) (hM : vx_Met l y ws rm Pc Qc XC mc ms free) (cw : vx_CSW R s args own index y bytes maxL ret hh ws rm mc ms n) (hp : PreS s H Pc As)
    (hg : g.method = m) (hn : As.length = n) (hsize : g.locals.size = nL) (hstack : g.stack = As.reverse ++ rest) (hW : 2 * g.monitorRoom + (rest.map fun v => v.category).sum ≤ 8) (hdg : decode cc g.pc = .ok (.invokestatic index, 3)) (hf : cells + mc ≤ R.cells ∧ slots + ms ≤ R.slots) :
    vx_Run p l e R s m args below meth c H locs cells slots mc ms g rest (Qc As.toArray) XC free := by
  obtain ⟨⟨hrc, hrs, hfr, hlo, hws, hcw⟩, hcode, hini, hy, hlen, hl, hstt⟩ := cw
  have hK : vx_Back l R p e below s args y 3 8 (PreOf R mc ms Pc) (PostOf Qc mc ms free) (vx_Post XC mc ms free) := vx_backW (hh := hh) (bytes := bytes) (maxL := maxL) (ret := ret) hM hp.1 hrc hrs hfr hlo hws hcw (fun a' U hW => word_at hW (Or.inl (by first | rfl | simp [Cond.onTables, Cond.keeps, Cond.steady])) hini)
  obtain ⟨hx, hb, hml, ho, -⟩ := S
  intro T hT X
  rcases vx_callSX X hx (hh := hh) (bytes := bytes) (maxL := maxL) (ret := ret) ho hl hstt hini hcode hy hK hg (hsize.trans hml.symm) (argsL := As) (rest := rest) (fun sig h => hn.trans (hlen sig h)) hstack hW (by rw [hb]; exact hdg)
    (fun vm₁ hW₁ => ⟨hf.1, hf.2, hp.2 (T.setVm vm₁) hT hW₁⟩) with ⟨v, vm₁, ⟨U', l2, c2, s2⟩, hW₁, X', ⟨g', mk, t, L, e1, e2, hq, h1, hL, h2, h3⟩, st⟩ | ⟨q, vm₁, ⟨U', l2, c2, s2⟩, hW₁, X', ⟨g', mk, t, L, E, ce, e1, e2, hq, hce, hcv, hcl, h1, hL, h2, h3⟩, st⟩
  · dsimp only [Pt.U, Pt.locs, Pt.cells, Pt.slots] at X' e1 e2 h1 h2 h3 st
    subst h1; subst h2; subst h3
    exact Or.inl ⟨v, (T.setVm vm₁).calling g' mk As.toArray, t, U', L, hT, X', hL, e1, e2, hq, st⟩
  · dsimp only [Pt.U, Pt.locs, Pt.cells, Pt.slots] at X' e1 e2 h1 h2 h3 st hcl
    subst h1; subst h2; subst h3
    exact Or.inr ⟨q, (T.setVm vm₁).calling g' mk As.toArray, t, U', L, E, ce, hT, X', hL, e1, e2, hq, hce, hcv, vx_cls hW₁ hcl, st⟩
end
end VXH
theorem vx_ofWH {l : Launch} {y : MethodName} {ws ws' : List Cond} {rm : Room} {Pc : Array Value → State → Prop} {Qc : Array Value → State → Outcome → State → Prop} {XC : String → State → State → Prop} {mc ms : Nat} {free : Addr → Prop} {cc : ByteArray} {maxL : Nat} {ret : Option FieldType} {hh : List (Nat × Nat × Nat × Nat)}
    (hy : plainName y.cls = true) (hw : ws = Cond.codeWith y cc maxL ret hh :: ws')
    (body : ∀ p e s m args below meth c s₁, BodyLoose p l y (headSpec ws rm) cc maxL ret e s m args below meth c s₁ → c.maxLocals = maxL → Pc args s →
      W p l e (headSpec ws rm).room s m args below meth c s.heap [] 0 0 (vx_MQ below Qc XC args s mc ms free) (entryFrame m args maxL)) : vx_Met l y ws rm Pc Qc XC mc ms free := by
  refine MetFree.of_bodyS (code := cc) (maxLocals := maxL) (ret := ret) hy ?_ ?_
  · intro args s m h hn
    obtain ⟨m9, meth, c, hn9, h1, h2, h3, h4, -, h5, h6, -⟩ := Cond.codeWith_spec (atoms_spec (ws := ws) h _ (by rw [hw]; exact List.mem_cons_self))
    cases hn.symm.trans hn9
    exact ⟨meth, c, h1, h2, h3, h4, h5, h6⟩
  · intro p e s m args below meth c s₁ B hml hP _
    have hh0 : s₁.heap = s.heap := by rw [B.state]; rfl
    obtain ⟨t, a1, o, b1, b2, b3⟩ := body p e s m args below meth c s₁ B hml hP s₁ hh0 (Stand.of_body B)
    exact ⟨t, o, a1, b1, b2, b3⟩
/-! ===== END ===== -/
end
section
/-! ===== BEGIN printed: names, fields, word lists, decode rows ===== -/
def RX0 : String := "ObjectMapper$Entity"
def TX0 : u_T := fun k => match k with
  | 0 => ("ObjectMapper$Entity", "inSession", "Z", false)
  | 1 => ("ObjectMapper$Entity", "struckOut", "Z", false)
  | 2 => ("ObjectMapper$Entity", "hasSnapshot", "Z", false)
  | 3 => ("ObjectMapper$Entity", "name", "I", false)
  | 4 => ("ObjectMapper$Entity", "reference", "I", false)
  | 5 => ("ObjectMapper$Entity", "snapshotName", "I", false)
  | 6 => ("ObjectMapper$Entity", "snapshotReference", "I", false)
  | _ => ("ObjectMapper$Entity", "snapshotVersion", "I", false)
def tyX0 : Nat → FieldType := fun k => match k with
  | 0 => .boolean
  | 1 => .boolean
  | 2 => .boolean
  | 3 => .int
  | 4 => .int
  | 5 => .int
  | 6 => .int
  | _ => .int
abbrev wsX00 : List Cond := u_ws RX0 TX0 8
theorem nmX0 : ∀ a, a < 8 → ∀ b, b < 8 → a ≠ b → (TX0 a).2.1 ≠ (TX0 b).2.1 := by decide +kernel
theorem tyX0_ok : ∀ k, k < 8 → parseFieldDescriptor (TX0 k).2.2.1 = some (tyX0 k) := by decide +kernel
abbrev cX0_init : ByteArray := prog_2_method_1_code
def yX0_init : MethodName := ⟨RX0, "<init>", "()V"⟩
abbrev cX0_make : ByteArray := prog_2_method_2_code
def yX0_make : MethodName := ⟨RX0, "make", "(II)V"⟩
abbrev cX0_load : ByteArray := prog_2_method_3_code
def yX0_load : MethodName := ⟨RX0, "load", "(LObjectMapper$Row;)V"⟩
abbrev cX0_takeSnapshot : ByteArray := prog_2_method_4_code
def yX0_takeSnapshot : MethodName := ⟨RX0, "takeSnapshot", "(LObjectMapper$Row;)V"⟩
abbrev cX0_forget : ByteArray := prog_2_method_5_code
def yX0_forget : MethodName := ⟨RX0, "forget", "()V"⟩
abbrev cX0_strikeOut : ByteArray := prog_2_method_6_code
def yX0_strikeOut : MethodName := ⟨RX0, "strikeOut", "()V"⟩
abbrev cX0_isLive : ByteArray := prog_2_method_7_code
def yX0_isLive : MethodName := ⟨RX0, "isLive", "()Z"⟩
abbrev cX0_isLiveAndRefersTo : ByteArray := prog_2_method_8_code
def yX0_isLiveAndRefersTo : MethodName := ⟨RX0, "isLiveAndRefersTo", "(I)Z"⟩
abbrev cX0_isNew : ByteArray := prog_2_method_9_code
def yX0_isNew : MethodName := ⟨RX0, "isNew", "()Z"⟩
abbrev cX0_isChanged : ByteArray := prog_2_method_10_code
def yX0_isChanged : MethodName := ⟨RX0, "isChanged", "()Z"⟩
abbrev cX0_clashesWith : ByteArray := prog_2_method_11_code
def yX0_clashesWith : MethodName := ⟨RX0, "clashesWith", "(LObjectMapper$Row;)Z"⟩
def RX1 : String := "ObjectMapper$Flush"
def TX1 : u_T := fun k => match k with
  | 0 => ("ObjectMapper$Flush", "session", "LObjectMapper$Session;", true)
  | 1 => ("ObjectMapper$Flush", "authorTable", "LObjectMapper$Table;", true)
  | 2 => ("ObjectMapper$Flush", "bookTable", "LObjectMapper$Table;", true)
  | _ => ("ObjectMapper$Flush", "journal", "LObjectMapper$Journal;", true)
def tyX1 : Nat → FieldType := fun k => match k with
  | 0 => .object "ObjectMapper$Session"
  | 1 => .object "ObjectMapper$Table"
  | 2 => .object "ObjectMapper$Table"
  | _ => .object "ObjectMapper$Journal"
abbrev wsX10 : List Cond := u_ws RX1 TX1 4
theorem nmX1 : ∀ a, a < 4 → ∀ b, b < 4 → a ≠ b → (TX1 a).2.1 ≠ (TX1 b).2.1 := by decide +kernel
theorem tyX1_ok : ∀ k, k < 4 → parseFieldDescriptor (TX1 k).2.2.1 = some (tyX1 k) := by decide +kernel
abbrev cX1_init : ByteArray := prog_3_method_1_code
def yX1_init : MethodName := ⟨RX1, "<init>", "(LObjectMapper$Session;LObjectMapper$Table;LObjectMapper$Table;LObjectMapper$Journal;)V"⟩
abbrev cX1_tableFor : ByteArray := prog_3_method_2_code
def yX1_tableFor : MethodName := ⟨RX1, "tableFor", "(I)LObjectMapper$Table;"⟩
abbrev cX1_clashes : ByteArray := prog_3_method_3_code
def yX1_clashes : MethodName := ⟨RX1, "clashes", "()Z"⟩
abbrev cX1_clashesIn : ByteArray := prog_3_method_4_code
def yX1_clashesIn : MethodName := ⟨RX1, "clashesIn", "(I)Z"⟩
abbrev cX1_leavesDanglingReference : ByteArray := prog_3_method_5_code
def yX1_leavesDanglingReference : MethodName := ⟨RX1, "leavesDanglingReference", "()Z"⟩
abbrev cX1_leavesDanglingIn : ByteArray := prog_3_method_6_code
def yX1_leavesDanglingIn : MethodName := ⟨RX1, "leavesDanglingIn", "(I)Z"⟩
abbrev cX1_isThereBehind : ByteArray := prog_3_method_7_code
def yX1_isThereBehind : MethodName := ⟨RX1, "isThereBehind", "(II)Z"⟩
abbrev cX1_referenceBehind : ByteArray := prog_3_method_8_code
def yX1_referenceBehind : MethodName := ⟨RX1, "referenceBehind", "(II)I"⟩
abbrev cX1_doWrites : ByteArray := prog_3_method_9_code
def yX1_doWrites : MethodName := ⟨RX1, "doWrites", "()V"⟩
abbrev cX1_insertAuthors : ByteArray := prog_3_method_10_code
def yX1_insertAuthors : MethodName := ⟨RX1, "insertAuthors", "()V"⟩
abbrev cX1_insertBooks : ByteArray := prog_3_method_11_code
def yX1_insertBooks : MethodName := ⟨RX1, "insertBooks", "()V"⟩
abbrev cX1_insert : ByteArray := prog_3_method_12_code
def yX1_insert : MethodName := ⟨RX1, "insert", "(LObjectMapper$Entity;III)V"⟩
abbrev cX1_updateChanged : ByteArray := prog_3_method_13_code
def yX1_updateChanged : MethodName := ⟨RX1, "updateChanged", "(I)V"⟩
abbrev cX1_deleteStruckOut : ByteArray := prog_3_method_14_code
def yX1_deleteStruckOut : MethodName := ⟨RX1, "deleteStruckOut", "(I)V"⟩
def RX2 : String := "ObjectMapper$Journal"
def TX2 : u_T := fun k => match k with
  | 0 => ("ObjectMapper$Journal", "size", "I", false)
  | 1 => ("ObjectMapper$Journal", "actions", "[I", false)
  | _ => ("ObjectMapper$Journal", "rowNumbers", "[I", false)
def tyX2 : Nat → FieldType := fun k => match k with
  | 0 => .int
  | 1 => .array .int
  | _ => .array .int
abbrev wsX20 : List Cond := u_ws RX2 TX2 3
theorem nmX2 : ∀ a, a < 3 → ∀ b, b < 3 → a ≠ b → (TX2 a).2.1 ≠ (TX2 b).2.1 := by decide +kernel
theorem tyX2_ok : ∀ k, k < 3 → parseFieldDescriptor (TX2 k).2.2.1 = some (tyX2 k) := by decide +kernel
abbrev cX2_init : ByteArray := prog_4_method_1_code
def yX2_init : MethodName := ⟨RX2, "<init>", "()V"⟩
abbrev cX2_isFull : ByteArray := prog_4_method_2_code
def yX2_isFull : MethodName := ⟨RX2, "isFull", "()Z"⟩
abbrev cX2_note : ByteArray := prog_4_method_3_code
def yX2_note : MethodName := ⟨RX2, "note", "(III)V"⟩
abbrev cX2_actionAt : ByteArray := prog_4_method_4_code
def yX2_actionAt : MethodName := ⟨RX2, "actionAt", "(I)I"⟩
abbrev cX2_rowNumberAt : ByteArray := prog_4_method_5_code
def yX2_rowNumberAt : MethodName := ⟨RX2, "rowNumberAt", "(I)I"⟩
def RX3 : String := "ObjectMapper$Row"
def TX3 : u_T := fun k => match k with
  | 0 => ("ObjectMapper$Row", "there", "Z", false)
  | 1 => ("ObjectMapper$Row", "name", "I", false)
  | 2 => ("ObjectMapper$Row", "reference", "I", false)
  | _ => ("ObjectMapper$Row", "version", "I", false)
def tyX3 : Nat → FieldType := fun k => match k with
  | 0 => .boolean
  | 1 => .int
  | 2 => .int
  | _ => .int
abbrev wsX30 : List Cond := u_ws RX3 TX3 4
theorem nmX3 : ∀ a, a < 4 → ∀ b, b < 4 → a ≠ b → (TX3 a).2.1 ≠ (TX3 b).2.1 := by decide +kernel
theorem tyX3_ok : ∀ k, k < 4 → parseFieldDescriptor (TX3 k).2.2.1 = some (tyX3 k) := by decide +kernel
abbrev cX3_init : ByteArray := prog_5_method_1_code
def yX3_init : MethodName := ⟨RX3, "<init>", "()V"⟩
abbrev cX3_insert : ByteArray := prog_5_method_2_code
def yX3_insert : MethodName := ⟨RX3, "insert", "(II)V"⟩
abbrev cX3_update : ByteArray := prog_5_method_3_code
def yX3_update : MethodName := ⟨RX3, "update", "(II)V"⟩
def RX4 : String := "ObjectMapper$Session"
def TX4 : u_T := fun k => match k with
  | 0 => ("ObjectMapper$Session", "authorPlaces", "Ljava/util/ArrayList;", true)
  | 1 => ("ObjectMapper$Session", "bookPlaces", "Ljava/util/ArrayList;", true)
  | _ => ("ObjectMapper$Session", "nobody", "LObjectMapper$Entity;", true)
def tyX4 : Nat → FieldType := fun k => match k with
  | 0 => .object "java/util/ArrayList"
  | 1 => .object "java/util/ArrayList"
  | _ => .object "ObjectMapper$Entity"
abbrev wsX40 : List Cond := u_ws RX4 TX4 3
theorem nmX4 : ∀ a, a < 3 → ∀ b, b < 3 → a ≠ b → (TX4 a).2.1 ≠ (TX4 b).2.1 := by decide +kernel
theorem tyX4_ok : ∀ k, k < 3 → parseFieldDescriptor (TX4 k).2.2.1 = some (tyX4 k) := by decide +kernel
abbrev cX4_init : ByteArray := prog_6_method_1_code
def yX4_init : MethodName := ⟨RX4, "<init>", "()V"⟩
abbrev cX4_listOf : ByteArray := prog_6_method_2_code
def yX4_listOf : MethodName := ⟨RX4, "listOf", "(I)Ljava/util/ArrayList;"⟩
abbrev cX4_sizeOf : ByteArray := prog_6_method_3_code
def yX4_sizeOf : MethodName := ⟨RX4, "sizeOf", "(I)I"⟩
abbrev cX4_addPlace : ByteArray := prog_6_method_4_code
def yX4_addPlace : MethodName := ⟨RX4, "addPlace", "(I)V"⟩
abbrev cX4_entityAt : ByteArray := prog_6_method_5_code
def yX4_entityAt : MethodName := ⟨RX4, "entityAt", "(II)LObjectMapper$Entity;"⟩
abbrev cX4_countLive : ByteArray := prog_6_method_6_code
def yX4_countLive : MethodName := ⟨RX4, "countLive", "(I)I"⟩
abbrev cX4_countLiveAndDirty : ByteArray := prog_6_method_7_code
def yX4_countLiveAndDirty : MethodName := ⟨RX4, "countLiveAndDirty", "(I)I"⟩
abbrev cX4_forgetAll : ByteArray := prog_6_method_8_code
def yX4_forgetAll : MethodName := ⟨RX4, "forgetAll", "(I)V"⟩
def RX5 : String := "ObjectMapper$Table"
def TX5 : u_T := fun k => match k with
  | 0 => ("ObjectMapper$Table", "places", "Ljava/util/ArrayList;", true)
  | _ => ("ObjectMapper$Table", "noRow", "LObjectMapper$Row;", true)
def tyX5 : Nat → FieldType := fun k => match k with
  | 0 => .object "java/util/ArrayList"
  | _ => .object "ObjectMapper$Row"
abbrev wsX50 : List Cond := u_ws RX5 TX5 2
theorem nmX5 : ∀ a, a < 2 → ∀ b, b < 2 → a ≠ b → (TX5 a).2.1 ≠ (TX5 b).2.1 := by decide +kernel
theorem tyX5_ok : ∀ k, k < 2 → parseFieldDescriptor (TX5 k).2.2.1 = some (tyX5 k) := by decide +kernel
abbrev cX5_init : ByteArray := prog_7_method_1_code
def yX5_init : MethodName := ⟨RX5, "<init>", "()V"⟩
abbrev cX5_size : ByteArray := prog_7_method_2_code
def yX5_size : MethodName := ⟨RX5, "size", "()I"⟩
abbrev cX5_addPlace : ByteArray := prog_7_method_3_code
def yX5_addPlace : MethodName := ⟨RX5, "addPlace", "()V"⟩
abbrev cX5_rowAt : ByteArray := prog_7_method_4_code
def yX5_rowAt : MethodName := ⟨RX5, "rowAt", "(I)LObjectMapper$Row;"⟩
abbrev cX5_countThere : ByteArray := prog_7_method_5_code
def yX5_countThere : MethodName := ⟨RX5, "countThere", "()I"⟩
def RX6 : String := "ObjectMapper"
def TX6 : u_T := fun k => match k with
  | 0 => ("ObjectMapper", "authorTable", "LObjectMapper$Table;", true)
  | 1 => ("ObjectMapper", "bookTable", "LObjectMapper$Table;", true)
  | 2 => ("ObjectMapper", "journal", "LObjectMapper$Journal;", true)
  | _ => ("ObjectMapper", "sessions", "[LObjectMapper$Session;", true)
def tyX6 : Nat → FieldType := fun k => match k with
  | 0 => .object "ObjectMapper$Table"
  | 1 => .object "ObjectMapper$Table"
  | 2 => .object "ObjectMapper$Journal"
  | _ => .array (.object "ObjectMapper$Session")
abbrev wsX60 : List Cond := u_ws RX6 TX6 4
theorem nmX6 : ∀ a, a < 4 → ∀ b, b < 4 → a ≠ b → (TX6 a).2.1 ≠ (TX6 b).2.1 := by decide +kernel
theorem tyX6_ok : ∀ k, k < 4 → parseFieldDescriptor (TX6 k).2.2.1 = some (tyX6 k) := by decide +kernel
abbrev cX6_init : ByteArray := prog_1_method_1_code
def yX6_init : MethodName := ⟨RX6, "<init>", "()V"⟩
abbrev cX6_makeAuthor : ByteArray := prog_1_method_2_code
def yX6_makeAuthor : MethodName := ⟨RX6, "makeAuthor", "(II)I"⟩
abbrev cX6_makeBook : ByteArray := prog_1_method_3_code
def yX6_makeBook : MethodName := ⟨RX6, "makeBook", "(III)I"⟩
abbrev cX6_find : ByteArray := prog_1_method_4_code
def yX6_find : MethodName := ⟨RX6, "find", "(III)Z"⟩
abbrev cX6_books : ByteArray := prog_1_method_5_code
def yX6_books : MethodName := ⟨RX6, "books", "(II)I"⟩
abbrev cX6_setName : ByteArray := prog_1_method_6_code
def yX6_setName : MethodName := ⟨RX6, "setName", "(IIII)V"⟩
abbrev cX6_setReference : ByteArray := prog_1_method_7_code
def yX6_setReference : MethodName := ⟨RX6, "setReference", "(IIII)V"⟩
abbrev cX6_remove : ByteArray := prog_1_method_8_code
def yX6_remove : MethodName := ⟨RX6, "remove", "(III)I"⟩
abbrev cX6_name : ByteArray := prog_1_method_9_code
def yX6_name : MethodName := ⟨RX6, "name", "(III)I"⟩
abbrev cX6_reference : ByteArray := prog_1_method_10_code
def yX6_reference : MethodName := ⟨RX6, "reference", "(III)I"⟩
abbrev cX6_known : ByteArray := prog_1_method_11_code
def yX6_known : MethodName := ⟨RX6, "known", "(I)I"⟩
abbrev cX6_dirty : ByteArray := prog_1_method_12_code
def yX6_dirty : MethodName := ⟨RX6, "dirty", "(I)I"⟩
abbrev cX6_flush : ByteArray := prog_1_method_13_code
def yX6_flush : MethodName := ⟨RX6, "flush", "(I)I"⟩
abbrev cX6_clear : ByteArray := prog_1_method_14_code
def yX6_clear : MethodName := ⟨RX6, "clear", "(I)I"⟩
abbrev cX6_rows : ByteArray := prog_1_method_15_code
def yX6_rows : MethodName := ⟨RX6, "rows", "(I)I"⟩
abbrev cX6_rowName : ByteArray := prog_1_method_16_code
def yX6_rowName : MethodName := ⟨RX6, "rowName", "(II)I"⟩
abbrev cX6_rowReference : ByteArray := prog_1_method_17_code
def yX6_rowReference : MethodName := ⟨RX6, "rowReference", "(II)I"⟩
abbrev cX6_rowVersion : ByteArray := prog_1_method_18_code
def yX6_rowVersion : MethodName := ⟨RX6, "rowVersion", "(II)I"⟩
abbrev cX6_writes : ByteArray := prog_1_method_19_code
def yX6_writes : MethodName := ⟨RX6, "writes", "()I"⟩
abbrev cX6_write : ByteArray := prog_1_method_20_code
def yX6_write : MethodName := ⟨RX6, "write", "(I)I"⟩
abbrev cX6_written : ByteArray := prog_1_method_21_code
def yX6_written : MethodName := ⟨RX6, "written", "(I)I"⟩
abbrev cX6_sessionAt : ByteArray := prog_1_method_22_code
def yX6_sessionAt : MethodName := ⟨RX6, "sessionAt", "(I)LObjectMapper$Session;"⟩
abbrev cX6_checkKind : ByteArray := prog_1_method_23_code
def yX6_checkKind : MethodName := ⟨RX6, "checkKind", "(I)V"⟩
abbrev cX6_checkRangeOfName : ByteArray := prog_1_method_24_code
def yX6_checkRangeOfName : MethodName := ⟨RX6, "checkRangeOfName", "(I)V"⟩
abbrev cX6_checkLive : ByteArray := prog_1_method_25_code
def yX6_checkLive : MethodName := ⟨RX6, "checkLive", "(LObjectMapper$Session;II)V"⟩
abbrev cX6_checkedRow : ByteArray := prog_1_method_26_code
def yX6_checkedRow : MethodName := ⟨RX6, "checkedRow", "(II)LObjectMapper$Row;"⟩
abbrev cX6_checkWrite : ByteArray := prog_1_method_27_code
def yX6_checkWrite : MethodName := ⟨RX6, "checkWrite", "(I)V"⟩
abbrev cX6_otherKind : ByteArray := prog_1_method_28_code
def yX6_otherKind : MethodName := ⟨RX6, "otherKind", "(I)I"⟩
abbrev cX6_tableOf : ByteArray := prog_1_method_29_code
def yX6_tableOf : MethodName := ⟨RX6, "tableOf", "(I)LObjectMapper$Table;"⟩
abbrev cX6_makeEntity : ByteArray := prog_1_method_30_code
def yX6_makeEntity : MethodName := ⟨RX6, "makeEntity", "(LObjectMapper$Session;III)I"⟩
abbrev cX6_loadReferring : ByteArray := prog_1_method_31_code
def yX6_loadReferring : MethodName := ⟨RX6, "loadReferring", "(LObjectMapper$Session;II)V"⟩
abbrev cX6_removeAuthor : ByteArray := prog_1_method_32_code
def yX6_removeAuthor : MethodName := ⟨RX6, "removeAuthor", "(LObjectMapper$Session;I)I"⟩
abbrev cX6_removeBook : ByteArray := prog_1_method_33_code
def yX6_removeBook : MethodName := ⟨RX6, "removeBook", "(LObjectMapper$Session;I)V"⟩
def RX7 : String := "ObjectMapperModel"
def TX7 : u_T := fun k => match k with
  | 0 => ("ObjectMapperModel", "thrown", "I", false)
  | 1 => ("ObjectMapperModel", "keys", "[I", true)
  | 2 => ("ObjectMapperModel", "isRow", "[Z", true)
  | 3 => ("ObjectMapperModel", "rowNames", "[I", true)
  | 4 => ("ObjectMapperModel", "rowReferences", "[I", true)
  | 5 => ("ObjectMapperModel", "rowVersions", "[I", true)
  | 6 => ("ObjectMapperModel", "willBe", "[Z", true)
  | 7 => ("ObjectMapperModel", "states", "[I", true)
  | 8 => ("ObjectMapperModel", "isRemoved", "[Z", true)
  | 9 => ("ObjectMapperModel", "names", "[I", true)
  | 10 => ("ObjectMapperModel", "references", "[I", true)
  | 11 => ("ObjectMapperModel", "oldNames", "[I", true)
  | 12 => ("ObjectMapperModel", "oldReferences", "[I", true)
  | 13 => ("ObjectMapperModel", "oldVersions", "[I", true)
  | 14 => ("ObjectMapperModel", "writes", "I", false)
  | _ => ("ObjectMapperModel", "written", "[I", true)
def tyX7 : Nat → FieldType := fun k => match k with
  | 0 => .int
  | 1 => .array .int
  | 2 => .array .boolean
  | 3 => .array .int
  | 4 => .array .int
  | 5 => .array .int
  | 6 => .array .boolean
  | 7 => .array .int
  | 8 => .array .boolean
  | 9 => .array .int
  | 10 => .array .int
  | 11 => .array .int
  | 12 => .array .int
  | 13 => .array .int
  | 14 => .int
  | _ => .array .int
abbrev wsX70 : List Cond := u_ws RX7 TX7 16
theorem nmX7 : ∀ a, a < 16 → ∀ b, b < 16 → a ≠ b → (TX7 a).2.1 ≠ (TX7 b).2.1 := by decide +kernel
theorem tyX7_ok : ∀ k, k < 16 → parseFieldDescriptor (TX7 k).2.2.1 = some (tyX7 k) := by decide +kernel
abbrev cX7_init : ByteArray := prog_9_method_1_code
def yX7_init : MethodName := ⟨RX7, "<init>", "()V"⟩
abbrev cX7_thrown : ByteArray := prog_9_method_2_code
def yX7_thrown : MethodName := ⟨RX7, "thrown", "()I"⟩
abbrev cX7_holds : ByteArray := prog_9_method_3_code
def yX7_holds : MethodName := ⟨RX7, "holds", "(I)Z"⟩
abbrev cX7_isSession : ByteArray := prog_9_method_4_code
def yX7_isSession : MethodName := ⟨RX7, "isSession", "(I)Z"⟩
abbrev cX7_isKind : ByteArray := prog_9_method_5_code
def yX7_isKind : MethodName := ⟨RX7, "isKind", "(I)Z"⟩
abbrev cX7_isName : ByteArray := prog_9_method_6_code
def yX7_isName : MethodName := ⟨RX7, "isName", "(I)Z"⟩
abbrev cX7_at : ByteArray := prog_9_method_7_code
def yX7_at : MethodName := ⟨RX7, "at", "(III)I"⟩
abbrev cX7_row : ByteArray := prog_9_method_8_code
def yX7_row : MethodName := ⟨RX7, "row", "(II)I"⟩
abbrev cX7_isKey : ByteArray := prog_9_method_9_code
def yX7_isKey : MethodName := ⟨RX7, "isKey", "(II)Z"⟩
abbrev cX7_hasRow : ByteArray := prog_9_method_10_code
def yX7_hasRow : MethodName := ⟨RX7, "hasRow", "(II)Z"⟩
abbrev cX7_knows : ByteArray := prog_9_method_11_code
def yX7_knows : MethodName := ⟨RX7, "knows", "(III)Z"⟩
abbrev cX7_takes : ByteArray := prog_9_method_12_code
def yX7_takes : MethodName := ⟨RX7, "takes", "(III)V"⟩
abbrev cX7_loads : ByteArray := prog_9_method_13_code
def yX7_loads : MethodName := ⟨RX7, "loads", "(III)V"⟩
abbrev cX7_makes : ByteArray := prog_9_method_14_code
def yX7_makes : MethodName := ⟨RX7, "makes", "(IIII)I"⟩
abbrev cX7_makeAuthor : ByteArray := prog_9_method_15_code
def yX7_makeAuthor : MethodName := ⟨RX7, "makeAuthor", "(II)I"⟩
abbrev cX7_makeBook : ByteArray := prog_9_method_16_code
def yX7_makeBook : MethodName := ⟨RX7, "makeBook", "(III)I"⟩
abbrev cX7_find : ByteArray := prog_9_method_17_code
def yX7_find : MethodName := ⟨RX7, "find", "(III)Z"⟩
abbrev cX7_countOf : ByteArray := prog_9_method_18_code
def yX7_countOf : MethodName := ⟨RX7, "countOf", "(II)I"⟩
abbrev cX7_books : ByteArray := prog_9_method_19_code
def yX7_books : MethodName := ⟨RX7, "books", "(II)I"⟩
abbrev cX7_isAsked : ByteArray := prog_9_method_20_code
def yX7_isAsked : MethodName := ⟨RX7, "isAsked", "(IIIZ)Z"⟩
abbrev cX7_setName : ByteArray := prog_9_method_21_code
def yX7_setName : MethodName := ⟨RX7, "setName", "(IIII)V"⟩
abbrev cX7_setReference : ByteArray := prog_9_method_22_code
def yX7_setReference : MethodName := ⟨RX7, "setReference", "(IIII)V"⟩
abbrev cX7_goes : ByteArray := prog_9_method_23_code
def yX7_goes : MethodName := ⟨RX7, "goes", "(III)V"⟩
abbrev cX7_removesBook : ByteArray := prog_9_method_24_code
def yX7_removesBook : MethodName := ⟨RX7, "removesBook", "(II)V"⟩
abbrev cX7_remove : ByteArray := prog_9_method_25_code
def yX7_remove : MethodName := ⟨RX7, "remove", "(III)I"⟩
abbrev cX7_name : ByteArray := prog_9_method_26_code
def yX7_name : MethodName := ⟨RX7, "name", "(III)I"⟩
abbrev cX7_reference : ByteArray := prog_9_method_27_code
def yX7_reference : MethodName := ⟨RX7, "reference", "(III)I"⟩
abbrev cX7_knownOf : ByteArray := prog_9_method_28_code
def yX7_knownOf : MethodName := ⟨RX7, "knownOf", "(I)I"⟩
abbrev cX7_known : ByteArray := prog_9_method_29_code
def yX7_known : MethodName := ⟨RX7, "known", "(I)I"⟩
abbrev cX7_isDirty : ByteArray := prog_9_method_30_code
def yX7_isDirty : MethodName := ⟨RX7, "isDirty", "(III)Z"⟩
abbrev cX7_dirty : ByteArray := prog_9_method_31_code
def yX7_dirty : MethodName := ⟨RX7, "dirty", "(I)I"⟩
abbrev cX7_isMade : ByteArray := prog_9_method_32_code
def yX7_isMade : MethodName := ⟨RX7, "isMade", "(III)Z"⟩
abbrev cX7_isGone : ByteArray := prog_9_method_33_code
def yX7_isGone : MethodName := ⟨RX7, "isGone", "(III)Z"⟩
abbrev cX7_areThere : ByteArray := prog_9_method_34_code
def yX7_areThere : MethodName := ⟨RX7, "areThere", "(I)Z"⟩
abbrev cX7_areWhole : ByteArray := prog_9_method_35_code
def yX7_areWhole : MethodName := ⟨RX7, "areWhole", "(I)Z"⟩
abbrev cX7_notes : ByteArray := prog_9_method_36_code
def yX7_notes : MethodName := ⟨RX7, "notes", "(III)V"⟩
abbrev cX7_inserts : ByteArray := prog_9_method_37_code
def yX7_inserts : MethodName := ⟨RX7, "inserts", "(III)V"⟩
abbrev cX7_updates : ByteArray := prog_9_method_38_code
def yX7_updates : MethodName := ⟨RX7, "updates", "(III)V"⟩
abbrev cX7_flush : ByteArray := prog_9_method_39_code
def yX7_flush : MethodName := ⟨RX7, "flush", "(I)I"⟩
abbrev cX7_clear : ByteArray := prog_9_method_40_code
def yX7_clear : MethodName := ⟨RX7, "clear", "(I)I"⟩
abbrev cX7_rows : ByteArray := prog_9_method_41_code
def yX7_rows : MethodName := ⟨RX7, "rows", "(I)I"⟩
abbrev cX7_isRowAsked : ByteArray := prog_9_method_42_code
def yX7_isRowAsked : MethodName := ⟨RX7, "isRowAsked", "(II)Z"⟩
abbrev cX7_rowName : ByteArray := prog_9_method_43_code
def yX7_rowName : MethodName := ⟨RX7, "rowName", "(II)I"⟩
abbrev cX7_rowReference : ByteArray := prog_9_method_44_code
def yX7_rowReference : MethodName := ⟨RX7, "rowReference", "(II)I"⟩
abbrev cX7_rowVersion : ByteArray := prog_9_method_45_code
def yX7_rowVersion : MethodName := ⟨RX7, "rowVersion", "(II)I"⟩
abbrev cX7_writes : ByteArray := prog_9_method_46_code
def yX7_writes : MethodName := ⟨RX7, "writes", "()I"⟩
abbrev cX7_isWrite : ByteArray := prog_9_method_47_code
def yX7_isWrite : MethodName := ⟨RX7, "isWrite", "(I)Z"⟩
abbrev cX7_write : ByteArray := prog_9_method_48_code
def yX7_write : MethodName := ⟨RX7, "write", "(I)I"⟩
abbrev cX7_written : ByteArray := prog_9_method_49_code
def yX7_written : MethodName := ⟨RX7, "written", "(I)I"⟩
def RJx145de : String := "java/io/Serializable"
def TJx145de : u_T := fun k => match k with
  | _ => ("", "", "", false)
def tyJx145de : Nat → FieldType := fun k => match k with
  | _ => .int
abbrev wsJx145de0 : List Cond := u_ws RJx145de TJx145de 0
theorem nmJx145de : ∀ a, a < 0 → ∀ b, b < 0 → a ≠ b → (TJx145de a).2.1 ≠ (TJx145de b).2.1 := by decide +kernel
theorem tyJx145de_ok : ∀ k, k < 0 → parseFieldDescriptor (TJx145de k).2.2.1 = some (tyJx145de k) := by decide +kernel
def RJx8e188 : String := "java/lang/Cloneable"
def TJx8e188 : u_T := fun k => match k with
  | _ => ("", "", "", false)
def tyJx8e188 : Nat → FieldType := fun k => match k with
  | _ => .int
abbrev wsJx8e1880 : List Cond := u_ws RJx8e188 TJx8e188 0
theorem nmJx8e188 : ∀ a, a < 0 → ∀ b, b < 0 → a ≠ b → (TJx8e188 a).2.1 ≠ (TJx8e188 b).2.1 := by decide +kernel
theorem tyJx8e188_ok : ∀ k, k < 0 → parseFieldDescriptor (TJx8e188 k).2.2.1 = some (tyJx8e188 k) := by decide +kernel
def RJxab1ab : String := "java/lang/Iterable"
def TJxab1ab : u_T := fun k => match k with
  | _ => ("", "", "", false)
def tyJxab1ab : Nat → FieldType := fun k => match k with
  | _ => .int
abbrev wsJxab1ab0 : List Cond := u_ws RJxab1ab TJxab1ab 0
theorem nmJxab1ab : ∀ a, a < 0 → ∀ b, b < 0 → a ≠ b → (TJxab1ab a).2.1 ≠ (TJxab1ab b).2.1 := by decide +kernel
theorem tyJxab1ab_ok : ∀ k, k < 0 → parseFieldDescriptor (TJxab1ab k).2.2.1 = some (tyJxab1ab k) := by decide +kernel
def RJ9 : String := "java/lang/Math"
def TJ9 : u_T := fun k => match k with
  | _ => ("", "", "", false)
def tyJ9 : Nat → FieldType := fun k => match k with
  | _ => .int
abbrev wsJ90 : List Cond := u_ws RJ9 TJ9 0
theorem nmJ9 : ∀ a, a < 0 → ∀ b, b < 0 → a ≠ b → (TJ9 a).2.1 ≠ (TJ9 b).2.1 := by decide +kernel
theorem tyJ9_ok : ∀ k, k < 0 → parseFieldDescriptor (TJ9 k).2.2.1 = some (tyJ9 k) := by decide +kernel
abbrev cJ9_max_7cf53 : ByteArray := prog_17_method_65_code
def yJ9_max_7cf53 : MethodName := ⟨RJ9, "max", "(II)I"⟩
abbrev cJ9_min_7cf53 : ByteArray := prog_17_method_69_code
def yJ9_min_7cf53 : MethodName := ⟨RJ9, "min", "(II)I"⟩
def RJ0 : String := "java/lang/String"
def TJ0 : u_T := fun k => match k with
  | _ => ("", "", "", false)
def tyJ0 : Nat → FieldType := fun k => match k with
  | _ => .int
abbrev wsJ00 : List Cond := u_ws RJ0 TJ0 0
theorem nmJ0 : ∀ a, a < 0 → ∀ b, b < 0 → a ≠ b → (TJ0 a).2.1 ≠ (TJ0 b).2.1 := by decide +kernel
theorem tyJ0_ok : ∀ k, k < 0 → parseFieldDescriptor (TJ0 k).2.2.1 = some (tyJ0 k) := by decide +kernel
def RJ10 : String := "java/lang/System"
def TJ10 : u_T := fun k => match k with
  | _ => ("", "", "", false)
def tyJ10 : Nat → FieldType := fun k => match k with
  | _ => .int
abbrev wsJ100 : List Cond := u_ws RJ10 TJ10 0
theorem nmJ10 : ∀ a, a < 0 → ∀ b, b < 0 → a ≠ b → (TJ10 a).2.1 ≠ (TJ10 b).2.1 := by decide +kernel
theorem tyJ10_ok : ∀ k, k < 0 → parseFieldDescriptor (TJ10 k).2.2.1 = some (tyJ10 k) := by decide +kernel
def RJxa1e45 : String := "java/util/AbstractCollection"
def TJxa1e45 : u_T := fun k => match k with
  | _ => ("", "", "", false)
def tyJxa1e45 : Nat → FieldType := fun k => match k with
  | _ => .int
abbrev wsJxa1e450 : List Cond := u_ws RJxa1e45 TJxa1e45 0
theorem nmJxa1e45 : ∀ a, a < 0 → ∀ b, b < 0 → a ≠ b → (TJxa1e45 a).2.1 ≠ (TJxa1e45 b).2.1 := by decide +kernel
theorem tyJxa1e45_ok : ∀ k, k < 0 → parseFieldDescriptor (TJxa1e45 k).2.2.1 = some (tyJxa1e45 k) := by decide +kernel
abbrev cJxa1e45_init_da8c8 : ByteArray := prog_22_method_1_code
def yJxa1e45_init_da8c8 : MethodName := ⟨RJxa1e45, "<init>", "()V"⟩
def RJxc12de : String := "java/util/AbstractList"
def TJxc12de : u_T := fun k => match k with
  | _ => ("", "", "", false)
def tyJxc12de : Nat → FieldType := fun k => match k with
  | _ => .int
abbrev wsJxc12de0 : List Cond := u_ws RJxc12de TJxc12de 0
theorem nmJxc12de : ∀ a, a < 0 → ∀ b, b < 0 → a ≠ b → (TJxc12de a).2.1 ≠ (TJxc12de b).2.1 := by decide +kernel
theorem tyJxc12de_ok : ∀ k, k < 0 → parseFieldDescriptor (TJxc12de k).2.2.1 = some (tyJxc12de k) := by decide +kernel
abbrev cJxc12de_init_da8c8 : ByteArray := prog_23_method_1_code
def yJxc12de_init_da8c8 : MethodName := ⟨RJxc12de, "<init>", "()V"⟩
def RJx4a65c : String := "java/util/ArrayList"
def TJx4a65c : u_T := fun k => match k with
  | 0 => ("java/util/AbstractList", "modCount", "I", false)
  | 1 => ("java/util/ArrayList", "elementData", "[Ljava/lang/Object;", false)
  | _ => ("java/util/ArrayList", "size", "I", false)
def tyJx4a65c : Nat → FieldType := fun k => match k with
  | 0 => .int
  | 1 => .array (.object "java/lang/Object")
  | _ => .int
abbrev wsJx4a65c0 : List Cond := u_ws RJx4a65c TJx4a65c 3
theorem nmJx4a65c : ∀ a, a < 3 → ∀ b, b < 3 → a ≠ b → (TJx4a65c a).2.1 ≠ (TJx4a65c b).2.1 := by decide +kernel
theorem tyJx4a65c_ok : ∀ k, k < 3 → parseFieldDescriptor (TJx4a65c k).2.2.1 = some (tyJx4a65c k) := by decide +kernel
abbrev cJx4a65c_init_da8c8 : ByteArray := prog_24_method_2_code
def yJx4a65c_init_da8c8 : MethodName := ⟨RJx4a65c, "<init>", "()V"⟩
abbrev cJx4a65c_grow_92f84 : ByteArray := prog_24_method_6_code
def yJx4a65c_grow_92f84 : MethodName := ⟨RJx4a65c, "grow", "(I)[Ljava/lang/Object;"⟩
abbrev cJx4a65c_grow_d5877 : ByteArray := prog_24_method_7_code
def yJx4a65c_grow_d5877 : MethodName := ⟨RJx4a65c, "grow", "()[Ljava/lang/Object;"⟩
abbrev cJx4a65c_size_8abf5 : ByteArray := prog_24_method_8_code
def yJx4a65c_size_8abf5 : MethodName := ⟨RJx4a65c, "size", "()I"⟩
abbrev cJx4a65c_elementData_915e3 : ByteArray := prog_24_method_18_code
def yJx4a65c_elementData_915e3 : MethodName := ⟨RJx4a65c, "elementData", "(I)Ljava/lang/Object;"⟩
abbrev cJx4a65c_get_915e3 : ByteArray := prog_24_method_20_code
def yJx4a65c_get_915e3 : MethodName := ⟨RJx4a65c, "get", "(I)Ljava/lang/Object;"⟩
abbrev cJx4a65c_add_72be8 : ByteArray := prog_24_method_24_code
def yJx4a65c_add_72be8 : MethodName := ⟨RJx4a65c, "add", "(Ljava/lang/Object;[Ljava/lang/Object;I)V"⟩
abbrev cJx4a65c_add_9ea2d : ByteArray := prog_24_method_25_code
def yJx4a65c_add_9ea2d : MethodName := ⟨RJx4a65c, "add", "(Ljava/lang/Object;)Z"⟩
def RJ7 : String := "java/util/Arrays"
def TJ7 : u_T := fun k => match k with
  | _ => ("", "", "", false)
def tyJ7 : Nat → FieldType := fun k => match k with
  | _ => .int
abbrev wsJ70 : List Cond := u_ws RJ7 TJ7 0
theorem nmJ7 : ∀ a, a < 0 → ∀ b, b < 0 → a ≠ b → (TJ7 a).2.1 ≠ (TJ7 b).2.1 := by decide +kernel
theorem tyJ7_ok : ∀ k, k < 0 → parseFieldDescriptor (TJ7 k).2.2.1 = some (tyJ7 k) := by decide +kernel
abbrev cJ7_copyOf_1904c : ByteArray := prog_25_method_119_code
def yJ7_copyOf_1904c : MethodName := ⟨RJ7, "copyOf", "([Ljava/lang/Object;I)[Ljava/lang/Object;"⟩
abbrev cJ7_copyOf_6403c : ByteArray := prog_25_method_120_code
def yJ7_copyOf_6403c : MethodName := ⟨RJ7, "copyOf", "([Ljava/lang/Object;ILjava/lang/Class;)[Ljava/lang/Object;"⟩
abbrev cJ7_copyOf_59c91 : ByteArray := prog_25_method_123_code
def yJ7_copyOf_59c91 : MethodName := ⟨RJ7, "copyOf", "([II)[I"⟩
def RJx5ef63 : String := "java/util/Collection"
def TJx5ef63 : u_T := fun k => match k with
  | _ => ("", "", "", false)
def tyJx5ef63 : Nat → FieldType := fun k => match k with
  | _ => .int
abbrev wsJx5ef630 : List Cond := u_ws RJx5ef63 TJx5ef63 0
theorem nmJx5ef63 : ∀ a, a < 0 → ∀ b, b < 0 → a ≠ b → (TJx5ef63 a).2.1 ≠ (TJx5ef63 b).2.1 := by decide +kernel
theorem tyJx5ef63_ok : ∀ k, k < 0 → parseFieldDescriptor (TJx5ef63 k).2.2.1 = some (tyJx5ef63 k) := by decide +kernel
def RJxbd725 : String := "java/util/List"
def TJxbd725 : u_T := fun k => match k with
  | _ => ("", "", "", false)
def tyJxbd725 : Nat → FieldType := fun k => match k with
  | _ => .int
abbrev wsJxbd7250 : List Cond := u_ws RJxbd725 TJxbd725 0
theorem nmJxbd725 : ∀ a, a < 0 → ∀ b, b < 0 → a ≠ b → (TJxbd725 a).2.1 ≠ (TJxbd725 b).2.1 := by decide +kernel
theorem tyJxbd725_ok : ∀ k, k < 0 → parseFieldDescriptor (TJxbd725 k).2.2.1 = some (tyJxbd725 k) := by decide +kernel
def RJ15 : String := "java/util/Objects"
def TJ15 : u_T := fun k => match k with
  | _ => ("", "", "", false)
def tyJ15 : Nat → FieldType := fun k => match k with
  | _ => .int
abbrev wsJ150 : List Cond := u_ws RJ15 TJ15 0
theorem nmJ15 : ∀ a, a < 0 → ∀ b, b < 0 → a ≠ b → (TJ15 a).2.1 ≠ (TJ15 b).2.1 := by decide +kernel
theorem tyJ15_ok : ∀ k, k < 0 → parseFieldDescriptor (TJ15 k).2.2.1 = some (tyJ15 k) := by decide +kernel
abbrev cJ15_checkIndex_7cf53 : ByteArray := prog_28_method_17_code
def yJ15_checkIndex_7cf53 : MethodName := ⟨RJ15, "checkIndex", "(II)I"⟩
def RJxf0a74 : String := "java/util/RandomAccess"
def TJxf0a74 : u_T := fun k => match k with
  | _ => ("", "", "", false)
def tyJxf0a74 : Nat → FieldType := fun k => match k with
  | _ => .int
abbrev wsJxf0a740 : List Cond := u_ws RJxf0a74 TJxf0a74 0
theorem nmJxf0a74 : ∀ a, a < 0 → ∀ b, b < 0 → a ≠ b → (TJxf0a74 a).2.1 ≠ (TJxf0a74 b).2.1 := by decide +kernel
theorem tyJxf0a74_ok : ∀ k, k < 0 → parseFieldDescriptor (TJxf0a74 k).2.2.1 = some (tyJxf0a74 k) := by decide +kernel
def RJxa66e6 : String := "java/util/SequencedCollection"
def TJxa66e6 : u_T := fun k => match k with
  | _ => ("", "", "", false)
def tyJxa66e6 : Nat → FieldType := fun k => match k with
  | _ => .int
abbrev wsJxa66e60 : List Cond := u_ws RJxa66e6 TJxa66e6 0
theorem nmJxa66e6 : ∀ a, a < 0 → ∀ b, b < 0 → a ≠ b → (TJxa66e6 a).2.1 ≠ (TJxa66e6 b).2.1 := by decide +kernel
theorem tyJxa66e6_ok : ∀ k, k < 0 → parseFieldDescriptor (TJxa66e6 k).2.2.1 = some (tyJxa66e6 k) := by decide +kernel
def RJ8 : String := "jdk/internal/util/ArraysSupport"
def TJ8 : u_T := fun k => match k with
  | _ => ("", "", "", false)
def tyJ8 : Nat → FieldType := fun k => match k with
  | _ => .int
abbrev wsJ80 : List Cond := u_ws RJ8 TJ8 0
theorem nmJ8 : ∀ a, a < 0 → ∀ b, b < 0 → a ≠ b → (TJ8 a).2.1 ≠ (TJ8 b).2.1 := by decide +kernel
theorem tyJ8_ok : ∀ k, k < 0 → parseFieldDescriptor (TJ8 k).2.2.1 = some (tyJ8 k) := by decide +kernel
abbrev cJ8_newLength_cabcc : ByteArray := prog_31_method_27_code
def yJ8_newLength_cabcc : MethodName := ⟨RJ8, "newLength", "(III)I"⟩
abbrev cJ8_hugeLength_7cf53 : ByteArray := prog_31_method_28_code
def yJ8_hugeLength_7cf53 : MethodName := ⟨RJ8, "hugeLength", "(II)I"⟩
def RJ3 : String := "jdk/internal/util/Preconditions"
def TJ3 : u_T := fun k => match k with
  | _ => ("", "", "", false)
def tyJ3 : Nat → FieldType := fun k => match k with
  | _ => .int
abbrev wsJ30 : List Cond := u_ws RJ3 TJ3 0
theorem nmJ3 : ∀ a, a < 0 → ∀ b, b < 0 → a ≠ b → (TJ3 a).2.1 ≠ (TJ3 b).2.1 := by decide +kernel
theorem tyJ3_ok : ∀ k, k < 0 → parseFieldDescriptor (TJ3 k).2.2.1 = some (tyJ3 k) := by decide +kernel
abbrev cJ3_checkIndex_8e157 : ByteArray := prog_32_method_11_code
def yJ3_checkIndex_8e157 : MethodName := ⟨RJ3, "checkIndex", "(IILjava/util/function/BiFunction;)I"⟩
def RL : String := "ObjectMapperLaw"
abbrev cL_makeAuthor : ByteArray := method_3_code
def yL_makeAuthor : MethodName := ⟨RL, "makeAuthor", "(LObjectMapper;II[J)I"⟩
abbrev cL_makeBook : ByteArray := method_4_code
def yL_makeBook : MethodName := ⟨RL, "makeBook", "(LObjectMapper;III[J)I"⟩
abbrev cL_find : ByteArray := method_5_code
def yL_find : MethodName := ⟨RL, "find", "(LObjectMapper;III[J)I"⟩
abbrev cL_books : ByteArray := method_6_code
def yL_books : MethodName := ⟨RL, "books", "(LObjectMapper;II[J)I"⟩
abbrev cL_setName : ByteArray := method_7_code
def yL_setName : MethodName := ⟨RL, "setName", "(LObjectMapper;IIII)I"⟩
abbrev cL_setReference : ByteArray := method_8_code
def yL_setReference : MethodName := ⟨RL, "setReference", "(LObjectMapper;IIII)I"⟩
abbrev cL_remove : ByteArray := method_9_code
def yL_remove : MethodName := ⟨RL, "remove", "(LObjectMapper;III[J)I"⟩
abbrev cL_name : ByteArray := method_10_code
def yL_name : MethodName := ⟨RL, "name", "(LObjectMapper;III[J)I"⟩
abbrev cL_reference : ByteArray := method_11_code
def yL_reference : MethodName := ⟨RL, "reference", "(LObjectMapper;III[J)I"⟩
abbrev cL_known : ByteArray := method_12_code
def yL_known : MethodName := ⟨RL, "known", "(LObjectMapper;I[J)I"⟩
abbrev cL_dirty : ByteArray := method_13_code
def yL_dirty : MethodName := ⟨RL, "dirty", "(LObjectMapper;I[J)I"⟩
abbrev cL_flush : ByteArray := method_14_code
def yL_flush : MethodName := ⟨RL, "flush", "(LObjectMapper;I[J)I"⟩
abbrev cL_clear : ByteArray := method_15_code
def yL_clear : MethodName := ⟨RL, "clear", "(LObjectMapper;I[J)I"⟩
abbrev cL_rows : ByteArray := method_16_code
def yL_rows : MethodName := ⟨RL, "rows", "(LObjectMapper;I[J)I"⟩
abbrev cL_rowName : ByteArray := method_17_code
def yL_rowName : MethodName := ⟨RL, "rowName", "(LObjectMapper;II[J)I"⟩
abbrev cL_rowReference : ByteArray := method_18_code
def yL_rowReference : MethodName := ⟨RL, "rowReference", "(LObjectMapper;II[J)I"⟩
abbrev cL_rowVersion : ByteArray := method_19_code
def yL_rowVersion : MethodName := ⟨RL, "rowVersion", "(LObjectMapper;II[J)I"⟩
abbrev cL_write : ByteArray := method_20_code
def yL_write : MethodName := ⟨RL, "write", "(LObjectMapper;I[J)I"⟩
abbrev cL_written : ByteArray := method_21_code
def yL_written : MethodName := ⟨RL, "written", "(LObjectMapper;I[J)I"⟩
abbrev cL_law : ByteArray := code
def yL_law : MethodName := ⟨RL, "law", "([I)Z"⟩
def wsX0_init : List Cond := .code yX0_init cX0_init 1 none :: ([.methodLink RX0 3 objectInit, .instanceMethod objectInit, .code objectInit ⟨#[0xb1]⟩ 1 none, .fieldLink RX0 9 "ObjectMapper$Entity" "reference" "I"] ++ wsX00)
def wsX0_make : List Cond := .code yX0_make cX0_make 3 none :: ([.fieldLink RX0 15 "ObjectMapper$Entity" "inSession" "Z", .fieldLink RX0 19 "ObjectMapper$Entity" "name" "I", .fieldLink RX0 9 "ObjectMapper$Entity" "reference" "I"] ++ wsX00)
def wsX0_takeSnapshot : List Cond := .code yX0_takeSnapshot cX0_takeSnapshot 2 none :: ([.fieldLink RX0 34 "ObjectMapper$Entity" "hasSnapshot" "Z", .fieldLink RX0 22 "ObjectMapper$Row" "name" "I", .fieldLink RX0 37 "ObjectMapper$Entity" "snapshotName" "I", .fieldLink RX0 25 "ObjectMapper$Row" "reference" "I", .fieldLink RX0 40 "ObjectMapper$Entity" "snapshotReference" "I", .fieldLink RX0 43 "ObjectMapper$Row" "version" "I", .fieldLink RX0 46 "ObjectMapper$Entity" "snapshotVersion" "I"] ++ wsX00 ++ wsX30)
def wsX0_load : List Cond := .code yX0_load cX0_load 2 none :: ([.fieldLink RX0 22 "ObjectMapper$Row" "name" "I", .fieldLink RX0 25 "ObjectMapper$Row" "reference" "I", .methodLink RX0 26 yX0_make, .instanceMethod yX0_make, .selects RX0 yX0_make yX0_make, .initialized RX0, .code yX0_make cX0_make 3 none, .fieldLink RX0 15 "ObjectMapper$Entity" "inSession" "Z", .fieldLink RX0 19 "ObjectMapper$Entity" "name" "I", .fieldLink RX0 9 "ObjectMapper$Entity" "reference" "I", .methodLink RX0 30 yX0_takeSnapshot, .instanceMethod yX0_takeSnapshot, .selects RX0 yX0_takeSnapshot yX0_takeSnapshot, .code yX0_takeSnapshot cX0_takeSnapshot 2 none, .fieldLink RX0 34 "ObjectMapper$Entity" "hasSnapshot" "Z", .fieldLink RX0 37 "ObjectMapper$Entity" "snapshotName" "I", .fieldLink RX0 40 "ObjectMapper$Entity" "snapshotReference" "I", .fieldLink RX0 43 "ObjectMapper$Row" "version" "I", .fieldLink RX0 46 "ObjectMapper$Entity" "snapshotVersion" "I"] ++ wsX30 ++ wsX00)
def wsX0_forget : List Cond := .code yX0_forget cX0_forget 1 none :: ([.fieldLink RX0 15 "ObjectMapper$Entity" "inSession" "Z", .fieldLink RX0 49 "ObjectMapper$Entity" "struckOut" "Z", .fieldLink RX0 34 "ObjectMapper$Entity" "hasSnapshot" "Z"] ++ wsX00)
def wsX0_strikeOut : List Cond := .code yX0_strikeOut cX0_strikeOut 1 none :: ([.fieldLink RX0 34 "ObjectMapper$Entity" "hasSnapshot" "Z", .fieldLink RX0 49 "ObjectMapper$Entity" "struckOut" "Z", .methodLink RX0 52 yX0_forget, .instanceMethod yX0_forget, .selects RX0 yX0_forget yX0_forget, .initialized RX0, .code yX0_forget cX0_forget 1 none, .fieldLink RX0 15 "ObjectMapper$Entity" "inSession" "Z"] ++ wsX00)
def wsX0_isLive : List Cond := .code yX0_isLive cX0_isLive 1 (some .boolean) :: ([.fieldLink RX0 15 "ObjectMapper$Entity" "inSession" "Z", .fieldLink RX0 49 "ObjectMapper$Entity" "struckOut" "Z"] ++ wsX00)
def wsX0_isLiveAndRefersTo : List Cond := .code yX0_isLiveAndRefersTo cX0_isLiveAndRefersTo 2 (some .boolean) :: ([.fieldLink RX0 9 "ObjectMapper$Entity" "reference" "I", .methodLink RX0 55 yX0_isLive, .instanceMethod yX0_isLive, .selects RX0 yX0_isLive yX0_isLive, .initialized RX0, .code yX0_isLive cX0_isLive 1 (some .boolean), .fieldLink RX0 15 "ObjectMapper$Entity" "inSession" "Z", .fieldLink RX0 49 "ObjectMapper$Entity" "struckOut" "Z"] ++ wsX00)
def wsX0_isNew : List Cond := .code yX0_isNew cX0_isNew 1 (some .boolean) :: ([.fieldLink RX0 15 "ObjectMapper$Entity" "inSession" "Z", .fieldLink RX0 34 "ObjectMapper$Entity" "hasSnapshot" "Z"] ++ wsX00)
def wsX0_isChanged : List Cond := .code yX0_isChanged cX0_isChanged 1 (some .boolean) :: ([.fieldLink RX0 34 "ObjectMapper$Entity" "hasSnapshot" "Z", .fieldLink RX0 19 "ObjectMapper$Entity" "name" "I", .fieldLink RX0 37 "ObjectMapper$Entity" "snapshotName" "I", .fieldLink RX0 9 "ObjectMapper$Entity" "reference" "I", .fieldLink RX0 40 "ObjectMapper$Entity" "snapshotReference" "I"] ++ wsX00)
def wsX0_clashesWith : List Cond := .code yX0_clashesWith cX0_clashesWith 2 (some .boolean) :: ([.fieldLink RX0 49 "ObjectMapper$Entity" "struckOut" "Z", .fieldLink RX0 62 "ObjectMapper$Row" "there" "Z", .fieldLink RX0 43 "ObjectMapper$Row" "version" "I", .fieldLink RX0 46 "ObjectMapper$Entity" "snapshotVersion" "I", .methodLink RX0 59 yX0_isChanged, .instanceMethod yX0_isChanged, .selects RX0 yX0_isChanged yX0_isChanged, .initialized RX0, .code yX0_isChanged cX0_isChanged 1 (some .boolean), .fieldLink RX0 34 "ObjectMapper$Entity" "hasSnapshot" "Z", .fieldLink RX0 19 "ObjectMapper$Entity" "name" "I", .fieldLink RX0 37 "ObjectMapper$Entity" "snapshotName" "I", .fieldLink RX0 9 "ObjectMapper$Entity" "reference" "I", .fieldLink RX0 40 "ObjectMapper$Entity" "snapshotReference" "I"] ++ wsX00 ++ wsX30)
def wsX1_init : List Cond := .code yX1_init cX1_init 5 none :: ([.methodLink RX1 3 objectInit, .instanceMethod objectInit, .code objectInit ⟨#[0xb1]⟩ 1 none, .fieldLink RX1 9 "ObjectMapper$Flush" "session" "LObjectMapper$Session;", .fieldLink RX1 15 "ObjectMapper$Flush" "authorTable" "LObjectMapper$Table;", .fieldLink RX1 19 "ObjectMapper$Flush" "bookTable" "LObjectMapper$Table;", .fieldLink RX1 22 "ObjectMapper$Flush" "journal" "LObjectMapper$Journal;"] ++ wsX10)
def wsX1_tableFor : List Cond := .code yX1_tableFor cX1_tableFor 2 (some (.object "ObjectMapper$Table")) :: ([.fieldLink RX1 15 "ObjectMapper$Flush" "authorTable" "LObjectMapper$Table;", .fieldLink RX1 19 "ObjectMapper$Flush" "bookTable" "LObjectMapper$Table;"] ++ wsX10)
def wsX4_listOf : List Cond := .code yX4_listOf cX4_listOf 2 (some (.object "java/util/ArrayList")) :: ([.fieldLink RX4 12 "ObjectMapper$Session" "authorPlaces" "Ljava/util/ArrayList;", .fieldLink RX4 18 "ObjectMapper$Session" "bookPlaces" "Ljava/util/ArrayList;"] ++ wsX40)
def wsJx4a65c_size_8abf5 : List Cond := .code yJx4a65c_size_8abf5 cJx4a65c_size_8abf5 1 (some .int) :: ([.fieldLink RJx4a65c 48 "java/util/ArrayList" "size" "I"] ++ wsJx4a65c0)
def wsX4_sizeOf : List Cond := .code yX4_sizeOf cX4_sizeOf 2 (some .int) :: ([.methodLink RX4 28 yX4_listOf, .instanceMethod yX4_listOf, .selects RX4 yX4_listOf yX4_listOf, .initialized RX4, .code yX4_listOf cX4_listOf 2 (some (.object "java/util/ArrayList")), .fieldLink RX4 12 "ObjectMapper$Session" "authorPlaces" "Ljava/util/ArrayList;", .fieldLink RX4 18 "ObjectMapper$Session" "bookPlaces" "Ljava/util/ArrayList;", .methodLink RX4 32 yJx4a65c_size_8abf5, .instanceMethod yJx4a65c_size_8abf5, .selects RJx4a65c yJx4a65c_size_8abf5 yJx4a65c_size_8abf5, .initialized RJx4a65c, .code yJx4a65c_size_8abf5 cJx4a65c_size_8abf5 1 (some .int), .fieldLink RJx4a65c 48 "java/util/ArrayList" "size" "I"] ++ wsX40 ++ wsJx4a65c0)
def wsJ3_checkIndex_8e157 : List Cond := .code yJ3_checkIndex_8e157 cJ3_checkIndex_8e157 3 (some .int) :: ([])
def wsJ15_checkIndex_7cf53 : List Cond := .code yJ15_checkIndex_7cf53 cJ15_checkIndex_7cf53 2 (some .int) :: ([.methodLink RJ15 105 yJ3_checkIndex_8e157, .static yJ3_checkIndex_8e157, .initialized RJ3, .code yJ3_checkIndex_8e157 cJ3_checkIndex_8e157 3 (some .int)])
def wsJx4a65c_elementData_915e3 : List Cond := .code yJx4a65c_elementData_915e3 cJx4a65c_elementData_915e3 2 (some (.object "java/lang/Object")) :: ([.fieldLink RJx4a65c 9 "java/util/ArrayList" "elementData" "[Ljava/lang/Object;"] ++ wsJx4a65c0)
def wsJx4a65c_get_915e3 : List Cond := .code yJx4a65c_get_915e3 cJx4a65c_get_915e3 2 (some (.object "java/lang/Object")) :: ([.fieldLink RJx4a65c 48 "java/util/ArrayList" "size" "I", .methodLink RJx4a65c 118 yJ15_checkIndex_7cf53, .static yJ15_checkIndex_7cf53, .initialized RJ15, .code yJ15_checkIndex_7cf53 cJ15_checkIndex_7cf53 2 (some .int), .methodLink RJ15 105 yJ3_checkIndex_8e157, .static yJ3_checkIndex_8e157, .initialized RJ3, .code yJ3_checkIndex_8e157 cJ3_checkIndex_8e157 3 (some .int), .methodLink RJx4a65c 123 yJx4a65c_elementData_915e3, .instanceMethod yJx4a65c_elementData_915e3, .selects RJx4a65c yJx4a65c_elementData_915e3 yJx4a65c_elementData_915e3, .initialized RJx4a65c, .code yJx4a65c_elementData_915e3 cJx4a65c_elementData_915e3 2 (some (.object "java/lang/Object")), .fieldLink RJx4a65c 9 "java/util/ArrayList" "elementData" "[Ljava/lang/Object;"] ++ wsJx4a65c0)
def wsX4_entityAt_r1 : List Cond := [Cond.fieldLink RX4 24 "ObjectMapper$Session" "nobody" "LObjectMapper$Entity;", Cond.classLink RX4 21 "ObjectMapper$Entity", Cond.methodLink RX4 28 yX4_listOf, Cond.instanceMethod yX4_listOf, Cond.selects RX4 yX4_listOf yX4_listOf, Cond.initialized RX4, Cond.code yX4_listOf cX4_listOf 2 (some (.object "java/util/ArrayList")), Cond.fieldLink RX4 12 "ObjectMapper$Session" "authorPlaces" "Ljava/util/ArrayList;", Cond.fieldLink RX4 18 "ObjectMapper$Session" "bookPlaces" "Ljava/util/ArrayList;", Cond.methodLink RX4 32 yJx4a65c_size_8abf5, Cond.instanceMethod yJx4a65c_size_8abf5, Cond.selects RJx4a65c yJx4a65c_size_8abf5 yJx4a65c_size_8abf5, Cond.initialized RJx4a65c, Cond.code yJx4a65c_size_8abf5 cJx4a65c_size_8abf5 1 (some .int), Cond.fieldLink RJx4a65c 48 "java/util/ArrayList" "size" "I", Cond.methodLink RX4 40 yJx4a65c_get_915e3, Cond.instanceMethod yJx4a65c_get_915e3, Cond.selects RJx4a65c yJx4a65c_get_915e3 yJx4a65c_get_915e3, Cond.code yJx4a65c_get_915e3 cJx4a65c_get_915e3 2 (some (.object "java/lang/Object")), Cond.methodLink RJx4a65c 118 yJ15_checkIndex_7cf53, Cond.static yJ15_checkIndex_7cf53, Cond.initialized RJ15, Cond.code yJ15_checkIndex_7cf53 cJ15_checkIndex_7cf53 2 (some .int), Cond.methodLink RJ15 105 yJ3_checkIndex_8e157]
def wsX4_entityAt_r2 : List Cond := [Cond.static yJ3_checkIndex_8e157, Cond.initialized RJ3, Cond.code yJ3_checkIndex_8e157 cJ3_checkIndex_8e157 3 (some .int), Cond.methodLink RJx4a65c 123 yJx4a65c_elementData_915e3, Cond.instanceMethod yJx4a65c_elementData_915e3, Cond.selects RJx4a65c yJx4a65c_elementData_915e3 yJx4a65c_elementData_915e3, Cond.code yJx4a65c_elementData_915e3 cJx4a65c_elementData_915e3 2 (some (.object "java/lang/Object")), Cond.fieldLink RJx4a65c 9 "java/util/ArrayList" "elementData" "[Ljava/lang/Object;"]
def wsX4_entityAt : List Cond := .code yX4_entityAt cX4_entityAt 4 (some (.object "ObjectMapper$Entity")) :: ((wsX4_entityAt_r1 ++ wsX4_entityAt_r2) ++ wsX40 ++ wsJx4a65c0)
def wsX5_rowAt_r1 : List Cond := [Cond.fieldLink RX5 10 "ObjectMapper$Table" "places" "Ljava/util/ArrayList;", Cond.fieldLink RX5 19 "ObjectMapper$Table" "noRow" "LObjectMapper$Row;", Cond.classLink RX5 16 "ObjectMapper$Row", Cond.methodLink RX5 23 yJx4a65c_size_8abf5, Cond.instanceMethod yJx4a65c_size_8abf5, Cond.selects RJx4a65c yJx4a65c_size_8abf5 yJx4a65c_size_8abf5, Cond.initialized RJx4a65c, Cond.code yJx4a65c_size_8abf5 cJx4a65c_size_8abf5 1 (some .int), Cond.fieldLink RJx4a65c 48 "java/util/ArrayList" "size" "I", Cond.methodLink RX5 31 yJx4a65c_get_915e3, Cond.instanceMethod yJx4a65c_get_915e3, Cond.selects RJx4a65c yJx4a65c_get_915e3 yJx4a65c_get_915e3, Cond.code yJx4a65c_get_915e3 cJx4a65c_get_915e3 2 (some (.object "java/lang/Object")), Cond.methodLink RJx4a65c 118 yJ15_checkIndex_7cf53, Cond.static yJ15_checkIndex_7cf53, Cond.initialized RJ15, Cond.code yJ15_checkIndex_7cf53 cJ15_checkIndex_7cf53 2 (some .int), Cond.methodLink RJ15 105 yJ3_checkIndex_8e157, Cond.static yJ3_checkIndex_8e157, Cond.initialized RJ3, Cond.code yJ3_checkIndex_8e157 cJ3_checkIndex_8e157 3 (some .int), Cond.methodLink RJx4a65c 123 yJx4a65c_elementData_915e3, Cond.instanceMethod yJx4a65c_elementData_915e3, Cond.selects RJx4a65c yJx4a65c_elementData_915e3 yJx4a65c_elementData_915e3]
def wsX5_rowAt_r2 : List Cond := [Cond.code yJx4a65c_elementData_915e3 cJx4a65c_elementData_915e3 2 (some (.object "java/lang/Object")), Cond.fieldLink RJx4a65c 9 "java/util/ArrayList" "elementData" "[Ljava/lang/Object;"]
def wsX5_rowAt : List Cond := .code yX5_rowAt cX5_rowAt 2 (some (.object "ObjectMapper$Row")) :: ((wsX5_rowAt_r1 ++ wsX5_rowAt_r2) ++ wsX50 ++ wsJx4a65c0)
def wsX1_clashesIn_r1 : List Cond := [Cond.fieldLink RX1 9 "ObjectMapper$Flush" "session" "LObjectMapper$Session;", Cond.methodLink RX1 30 yX4_sizeOf, Cond.instanceMethod yX4_sizeOf, Cond.selects RX4 yX4_sizeOf yX4_sizeOf, Cond.initialized RX4, Cond.code yX4_sizeOf cX4_sizeOf 2 (some .int), Cond.methodLink RX4 28 yX4_listOf, Cond.instanceMethod yX4_listOf, Cond.selects RX4 yX4_listOf yX4_listOf, Cond.code yX4_listOf cX4_listOf 2 (some (.object "java/util/ArrayList")), Cond.fieldLink RX4 12 "ObjectMapper$Session" "authorPlaces" "Ljava/util/ArrayList;", Cond.fieldLink RX4 18 "ObjectMapper$Session" "bookPlaces" "Ljava/util/ArrayList;", Cond.methodLink RX4 32 yJx4a65c_size_8abf5, Cond.instanceMethod yJx4a65c_size_8abf5, Cond.selects RJx4a65c yJx4a65c_size_8abf5 yJx4a65c_size_8abf5, Cond.initialized RJx4a65c, Cond.code yJx4a65c_size_8abf5 cJx4a65c_size_8abf5 1 (some .int), Cond.fieldLink RJx4a65c 48 "java/util/ArrayList" "size" "I", Cond.methodLink RX1 36 yX4_entityAt, Cond.instanceMethod yX4_entityAt, Cond.selects RX4 yX4_entityAt yX4_entityAt, Cond.code yX4_entityAt cX4_entityAt 4 (some (.object "ObjectMapper$Entity")), Cond.fieldLink RX4 24 "ObjectMapper$Session" "nobody" "LObjectMapper$Entity;", Cond.classLink RX4 21 "ObjectMapper$Entity"]
def wsX1_clashesIn_r2 : List Cond := [Cond.methodLink RX4 40 yJx4a65c_get_915e3, Cond.instanceMethod yJx4a65c_get_915e3, Cond.selects RJx4a65c yJx4a65c_get_915e3 yJx4a65c_get_915e3, Cond.code yJx4a65c_get_915e3 cJx4a65c_get_915e3 2 (some (.object "java/lang/Object")), Cond.methodLink RJx4a65c 118 yJ15_checkIndex_7cf53, Cond.static yJ15_checkIndex_7cf53, Cond.initialized RJ15, Cond.code yJ15_checkIndex_7cf53 cJ15_checkIndex_7cf53 2 (some .int), Cond.methodLink RJ15 105 yJ3_checkIndex_8e157, Cond.static yJ3_checkIndex_8e157, Cond.initialized RJ3, Cond.code yJ3_checkIndex_8e157 cJ3_checkIndex_8e157 3 (some .int), Cond.methodLink RJx4a65c 123 yJx4a65c_elementData_915e3, Cond.instanceMethod yJx4a65c_elementData_915e3, Cond.selects RJx4a65c yJx4a65c_elementData_915e3 yJx4a65c_elementData_915e3, Cond.code yJx4a65c_elementData_915e3 cJx4a65c_elementData_915e3 2 (some (.object "java/lang/Object")), Cond.fieldLink RJx4a65c 9 "java/util/ArrayList" "elementData" "[Ljava/lang/Object;", Cond.methodLink RX1 40 yX1_tableFor, Cond.instanceMethod yX1_tableFor, Cond.selects RX1 yX1_tableFor yX1_tableFor, Cond.initialized RX1, Cond.code yX1_tableFor cX1_tableFor 2 (some (.object "ObjectMapper$Table")), Cond.fieldLink RX1 15 "ObjectMapper$Flush" "authorTable" "LObjectMapper$Table;", Cond.fieldLink RX1 19 "ObjectMapper$Flush" "bookTable" "LObjectMapper$Table;"]
def wsX1_clashesIn_r3 : List Cond := [Cond.methodLink RX1 44 yX5_rowAt, Cond.instanceMethod yX5_rowAt, Cond.selects RX5 yX5_rowAt yX5_rowAt, Cond.initialized RX5, Cond.code yX5_rowAt cX5_rowAt 2 (some (.object "ObjectMapper$Row")), Cond.fieldLink RX5 10 "ObjectMapper$Table" "places" "Ljava/util/ArrayList;", Cond.fieldLink RX5 19 "ObjectMapper$Table" "noRow" "LObjectMapper$Row;", Cond.classLink RX5 16 "ObjectMapper$Row", Cond.methodLink RX5 23 yJx4a65c_size_8abf5, Cond.methodLink RX5 31 yJx4a65c_get_915e3, Cond.methodLink RX1 50 yX0_clashesWith, Cond.instanceMethod yX0_clashesWith, Cond.selects RX0 yX0_clashesWith yX0_clashesWith, Cond.initialized RX0, Cond.code yX0_clashesWith cX0_clashesWith 2 (some .boolean), Cond.fieldLink RX0 49 "ObjectMapper$Entity" "struckOut" "Z", Cond.fieldLink RX0 62 "ObjectMapper$Row" "there" "Z", Cond.fieldLink RX0 43 "ObjectMapper$Row" "version" "I", Cond.fieldLink RX0 46 "ObjectMapper$Entity" "snapshotVersion" "I", Cond.methodLink RX0 59 yX0_isChanged, Cond.instanceMethod yX0_isChanged, Cond.selects RX0 yX0_isChanged yX0_isChanged, Cond.code yX0_isChanged cX0_isChanged 1 (some .boolean), Cond.fieldLink RX0 34 "ObjectMapper$Entity" "hasSnapshot" "Z"]
def wsX1_clashesIn_r4 : List Cond := [Cond.fieldLink RX0 19 "ObjectMapper$Entity" "name" "I", Cond.fieldLink RX0 37 "ObjectMapper$Entity" "snapshotName" "I", Cond.fieldLink RX0 9 "ObjectMapper$Entity" "reference" "I", Cond.fieldLink RX0 40 "ObjectMapper$Entity" "snapshotReference" "I"]
def wsX1_clashesIn : List Cond := .code yX1_clashesIn cX1_clashesIn 3 (some .boolean) :: ((wsX1_clashesIn_r1 ++ (wsX1_clashesIn_r2 ++ (wsX1_clashesIn_r3 ++ wsX1_clashesIn_r4))) ++ wsX10 ++ wsX40 ++ wsJx4a65c0 ++ wsX50 ++ wsX00 ++ wsX30)
def wsX1_clashes_r1 : List Cond := [Cond.methodLink RX1 26 yX1_clashesIn, Cond.instanceMethod yX1_clashesIn, Cond.selects RX1 yX1_clashesIn yX1_clashesIn, Cond.initialized RX1, Cond.code yX1_clashesIn cX1_clashesIn 3 (some .boolean), Cond.fieldLink RX1 9 "ObjectMapper$Flush" "session" "LObjectMapper$Session;", Cond.methodLink RX1 30 yX4_sizeOf, Cond.instanceMethod yX4_sizeOf, Cond.selects RX4 yX4_sizeOf yX4_sizeOf, Cond.initialized RX4, Cond.code yX4_sizeOf cX4_sizeOf 2 (some .int), Cond.methodLink RX4 28 yX4_listOf, Cond.instanceMethod yX4_listOf, Cond.selects RX4 yX4_listOf yX4_listOf, Cond.code yX4_listOf cX4_listOf 2 (some (.object "java/util/ArrayList")), Cond.fieldLink RX4 12 "ObjectMapper$Session" "authorPlaces" "Ljava/util/ArrayList;", Cond.fieldLink RX4 18 "ObjectMapper$Session" "bookPlaces" "Ljava/util/ArrayList;", Cond.methodLink RX4 32 yJx4a65c_size_8abf5, Cond.instanceMethod yJx4a65c_size_8abf5, Cond.selects RJx4a65c yJx4a65c_size_8abf5 yJx4a65c_size_8abf5, Cond.initialized RJx4a65c, Cond.code yJx4a65c_size_8abf5 cJx4a65c_size_8abf5 1 (some .int), Cond.fieldLink RJx4a65c 48 "java/util/ArrayList" "size" "I", Cond.methodLink RX1 36 yX4_entityAt]
def wsX1_clashes_r2 : List Cond := [Cond.instanceMethod yX4_entityAt, Cond.selects RX4 yX4_entityAt yX4_entityAt, Cond.code yX4_entityAt cX4_entityAt 4 (some (.object "ObjectMapper$Entity")), Cond.fieldLink RX4 24 "ObjectMapper$Session" "nobody" "LObjectMapper$Entity;", Cond.classLink RX4 21 "ObjectMapper$Entity", Cond.methodLink RX4 40 yJx4a65c_get_915e3, Cond.instanceMethod yJx4a65c_get_915e3, Cond.selects RJx4a65c yJx4a65c_get_915e3 yJx4a65c_get_915e3, Cond.code yJx4a65c_get_915e3 cJx4a65c_get_915e3 2 (some (.object "java/lang/Object")), Cond.methodLink RJx4a65c 118 yJ15_checkIndex_7cf53, Cond.static yJ15_checkIndex_7cf53, Cond.initialized RJ15, Cond.code yJ15_checkIndex_7cf53 cJ15_checkIndex_7cf53 2 (some .int), Cond.methodLink RJ15 105 yJ3_checkIndex_8e157, Cond.static yJ3_checkIndex_8e157, Cond.initialized RJ3, Cond.code yJ3_checkIndex_8e157 cJ3_checkIndex_8e157 3 (some .int), Cond.methodLink RJx4a65c 123 yJx4a65c_elementData_915e3, Cond.instanceMethod yJx4a65c_elementData_915e3, Cond.selects RJx4a65c yJx4a65c_elementData_915e3 yJx4a65c_elementData_915e3, Cond.code yJx4a65c_elementData_915e3 cJx4a65c_elementData_915e3 2 (some (.object "java/lang/Object")), Cond.fieldLink RJx4a65c 9 "java/util/ArrayList" "elementData" "[Ljava/lang/Object;", Cond.methodLink RX1 40 yX1_tableFor, Cond.instanceMethod yX1_tableFor]
def wsX1_clashes_r3 : List Cond := [Cond.selects RX1 yX1_tableFor yX1_tableFor, Cond.code yX1_tableFor cX1_tableFor 2 (some (.object "ObjectMapper$Table")), Cond.fieldLink RX1 15 "ObjectMapper$Flush" "authorTable" "LObjectMapper$Table;", Cond.fieldLink RX1 19 "ObjectMapper$Flush" "bookTable" "LObjectMapper$Table;", Cond.methodLink RX1 44 yX5_rowAt, Cond.instanceMethod yX5_rowAt, Cond.selects RX5 yX5_rowAt yX5_rowAt, Cond.initialized RX5, Cond.code yX5_rowAt cX5_rowAt 2 (some (.object "ObjectMapper$Row")), Cond.fieldLink RX5 10 "ObjectMapper$Table" "places" "Ljava/util/ArrayList;", Cond.fieldLink RX5 19 "ObjectMapper$Table" "noRow" "LObjectMapper$Row;", Cond.classLink RX5 16 "ObjectMapper$Row", Cond.methodLink RX5 23 yJx4a65c_size_8abf5, Cond.methodLink RX5 31 yJx4a65c_get_915e3, Cond.methodLink RX1 50 yX0_clashesWith, Cond.instanceMethod yX0_clashesWith, Cond.selects RX0 yX0_clashesWith yX0_clashesWith, Cond.initialized RX0, Cond.code yX0_clashesWith cX0_clashesWith 2 (some .boolean), Cond.fieldLink RX0 49 "ObjectMapper$Entity" "struckOut" "Z", Cond.fieldLink RX0 62 "ObjectMapper$Row" "there" "Z", Cond.fieldLink RX0 43 "ObjectMapper$Row" "version" "I", Cond.fieldLink RX0 46 "ObjectMapper$Entity" "snapshotVersion" "I", Cond.methodLink RX0 59 yX0_isChanged]
def wsX1_clashes_r4 : List Cond := [Cond.instanceMethod yX0_isChanged, Cond.selects RX0 yX0_isChanged yX0_isChanged, Cond.code yX0_isChanged cX0_isChanged 1 (some .boolean), Cond.fieldLink RX0 34 "ObjectMapper$Entity" "hasSnapshot" "Z", Cond.fieldLink RX0 19 "ObjectMapper$Entity" "name" "I", Cond.fieldLink RX0 37 "ObjectMapper$Entity" "snapshotName" "I", Cond.fieldLink RX0 9 "ObjectMapper$Entity" "reference" "I", Cond.fieldLink RX0 40 "ObjectMapper$Entity" "snapshotReference" "I"]
def wsX1_clashes : List Cond := .code yX1_clashes cX1_clashes 1 (some .boolean) :: ((wsX1_clashes_r1 ++ (wsX1_clashes_r2 ++ (wsX1_clashes_r3 ++ wsX1_clashes_r4))) ++ wsX10 ++ wsX40 ++ wsJx4a65c0 ++ wsX50 ++ wsX00 ++ wsX30)
def wsX1_referenceBehind_r1 : List Cond := [Cond.fieldLink RX1 9 "ObjectMapper$Flush" "session" "LObjectMapper$Session;", Cond.fieldLink RX1 86 "ObjectMapper$Entity" "reference" "I", Cond.fieldLink RX1 90 "ObjectMapper$Row" "reference" "I", Cond.methodLink RX1 36 yX4_entityAt, Cond.instanceMethod yX4_entityAt, Cond.selects RX4 yX4_entityAt yX4_entityAt, Cond.initialized RX4, Cond.code yX4_entityAt cX4_entityAt 4 (some (.object "ObjectMapper$Entity")), Cond.fieldLink RX4 24 "ObjectMapper$Session" "nobody" "LObjectMapper$Entity;", Cond.classLink RX4 21 "ObjectMapper$Entity", Cond.methodLink RX4 28 yX4_listOf, Cond.instanceMethod yX4_listOf, Cond.selects RX4 yX4_listOf yX4_listOf, Cond.code yX4_listOf cX4_listOf 2 (some (.object "java/util/ArrayList")), Cond.fieldLink RX4 12 "ObjectMapper$Session" "authorPlaces" "Ljava/util/ArrayList;", Cond.fieldLink RX4 18 "ObjectMapper$Session" "bookPlaces" "Ljava/util/ArrayList;", Cond.methodLink RX4 32 yJx4a65c_size_8abf5, Cond.instanceMethod yJx4a65c_size_8abf5, Cond.selects RJx4a65c yJx4a65c_size_8abf5 yJx4a65c_size_8abf5, Cond.initialized RJx4a65c, Cond.code yJx4a65c_size_8abf5 cJx4a65c_size_8abf5 1 (some .int), Cond.fieldLink RJx4a65c 48 "java/util/ArrayList" "size" "I", Cond.methodLink RX4 40 yJx4a65c_get_915e3, Cond.instanceMethod yJx4a65c_get_915e3]
def wsX1_referenceBehind_r2 : List Cond := [Cond.selects RJx4a65c yJx4a65c_get_915e3 yJx4a65c_get_915e3, Cond.code yJx4a65c_get_915e3 cJx4a65c_get_915e3 2 (some (.object "java/lang/Object")), Cond.methodLink RJx4a65c 118 yJ15_checkIndex_7cf53, Cond.static yJ15_checkIndex_7cf53, Cond.initialized RJ15, Cond.code yJ15_checkIndex_7cf53 cJ15_checkIndex_7cf53 2 (some .int), Cond.methodLink RJ15 105 yJ3_checkIndex_8e157, Cond.static yJ3_checkIndex_8e157, Cond.initialized RJ3, Cond.code yJ3_checkIndex_8e157 cJ3_checkIndex_8e157 3 (some .int), Cond.methodLink RJx4a65c 123 yJx4a65c_elementData_915e3, Cond.instanceMethod yJx4a65c_elementData_915e3, Cond.selects RJx4a65c yJx4a65c_elementData_915e3 yJx4a65c_elementData_915e3, Cond.code yJx4a65c_elementData_915e3 cJx4a65c_elementData_915e3 2 (some (.object "java/lang/Object")), Cond.fieldLink RJx4a65c 9 "java/util/ArrayList" "elementData" "[Ljava/lang/Object;", Cond.methodLink RX1 70 yX0_isNew, Cond.instanceMethod yX0_isNew, Cond.selects RX0 yX0_isNew yX0_isNew, Cond.initialized RX0, Cond.code yX0_isNew cX0_isNew 1 (some .boolean), Cond.fieldLink RX0 15 "ObjectMapper$Entity" "inSession" "Z", Cond.fieldLink RX0 34 "ObjectMapper$Entity" "hasSnapshot" "Z", Cond.methodLink RX1 83 yX0_isChanged, Cond.instanceMethod yX0_isChanged]
def wsX1_referenceBehind_r3 : List Cond := [Cond.selects RX0 yX0_isChanged yX0_isChanged, Cond.code yX0_isChanged cX0_isChanged 1 (some .boolean), Cond.fieldLink RX0 19 "ObjectMapper$Entity" "name" "I", Cond.fieldLink RX0 37 "ObjectMapper$Entity" "snapshotName" "I", Cond.fieldLink RX0 9 "ObjectMapper$Entity" "reference" "I", Cond.fieldLink RX0 40 "ObjectMapper$Entity" "snapshotReference" "I", Cond.methodLink RX1 40 yX1_tableFor, Cond.instanceMethod yX1_tableFor, Cond.selects RX1 yX1_tableFor yX1_tableFor, Cond.initialized RX1, Cond.code yX1_tableFor cX1_tableFor 2 (some (.object "ObjectMapper$Table")), Cond.fieldLink RX1 15 "ObjectMapper$Flush" "authorTable" "LObjectMapper$Table;", Cond.fieldLink RX1 19 "ObjectMapper$Flush" "bookTable" "LObjectMapper$Table;", Cond.methodLink RX1 44 yX5_rowAt, Cond.instanceMethod yX5_rowAt, Cond.selects RX5 yX5_rowAt yX5_rowAt, Cond.initialized RX5, Cond.code yX5_rowAt cX5_rowAt 2 (some (.object "ObjectMapper$Row")), Cond.fieldLink RX5 10 "ObjectMapper$Table" "places" "Ljava/util/ArrayList;", Cond.fieldLink RX5 19 "ObjectMapper$Table" "noRow" "LObjectMapper$Row;", Cond.classLink RX5 16 "ObjectMapper$Row", Cond.methodLink RX5 23 yJx4a65c_size_8abf5, Cond.methodLink RX5 31 yJx4a65c_get_915e3]
def wsX1_referenceBehind : List Cond := .code yX1_referenceBehind cX1_referenceBehind 4 (some .int) :: ((wsX1_referenceBehind_r1 ++ (wsX1_referenceBehind_r2 ++ wsX1_referenceBehind_r3)) ++ wsX10 ++ wsX00 ++ wsX30 ++ wsX40 ++ wsJx4a65c0 ++ wsX50)
def wsX1_isThereBehind_r1 : List Cond := [Cond.fieldLink RX1 9 "ObjectMapper$Flush" "session" "LObjectMapper$Session;", Cond.fieldLink RX1 74 "ObjectMapper$Entity" "struckOut" "Z", Cond.fieldLink RX1 78 "ObjectMapper$Row" "there" "Z", Cond.methodLink RX1 36 yX4_entityAt, Cond.instanceMethod yX4_entityAt, Cond.selects RX4 yX4_entityAt yX4_entityAt, Cond.initialized RX4, Cond.code yX4_entityAt cX4_entityAt 4 (some (.object "ObjectMapper$Entity")), Cond.fieldLink RX4 24 "ObjectMapper$Session" "nobody" "LObjectMapper$Entity;", Cond.classLink RX4 21 "ObjectMapper$Entity", Cond.methodLink RX4 28 yX4_listOf, Cond.instanceMethod yX4_listOf, Cond.selects RX4 yX4_listOf yX4_listOf, Cond.code yX4_listOf cX4_listOf 2 (some (.object "java/util/ArrayList")), Cond.fieldLink RX4 12 "ObjectMapper$Session" "authorPlaces" "Ljava/util/ArrayList;", Cond.fieldLink RX4 18 "ObjectMapper$Session" "bookPlaces" "Ljava/util/ArrayList;", Cond.methodLink RX4 32 yJx4a65c_size_8abf5, Cond.instanceMethod yJx4a65c_size_8abf5, Cond.selects RJx4a65c yJx4a65c_size_8abf5 yJx4a65c_size_8abf5, Cond.initialized RJx4a65c, Cond.code yJx4a65c_size_8abf5 cJx4a65c_size_8abf5 1 (some .int), Cond.fieldLink RJx4a65c 48 "java/util/ArrayList" "size" "I", Cond.methodLink RX4 40 yJx4a65c_get_915e3, Cond.instanceMethod yJx4a65c_get_915e3]
def wsX1_isThereBehind_r2 : List Cond := [Cond.selects RJx4a65c yJx4a65c_get_915e3 yJx4a65c_get_915e3, Cond.code yJx4a65c_get_915e3 cJx4a65c_get_915e3 2 (some (.object "java/lang/Object")), Cond.methodLink RJx4a65c 118 yJ15_checkIndex_7cf53, Cond.static yJ15_checkIndex_7cf53, Cond.initialized RJ15, Cond.code yJ15_checkIndex_7cf53 cJ15_checkIndex_7cf53 2 (some .int), Cond.methodLink RJ15 105 yJ3_checkIndex_8e157, Cond.static yJ3_checkIndex_8e157, Cond.initialized RJ3, Cond.code yJ3_checkIndex_8e157 cJ3_checkIndex_8e157 3 (some .int), Cond.methodLink RJx4a65c 123 yJx4a65c_elementData_915e3, Cond.instanceMethod yJx4a65c_elementData_915e3, Cond.selects RJx4a65c yJx4a65c_elementData_915e3 yJx4a65c_elementData_915e3, Cond.code yJx4a65c_elementData_915e3 cJx4a65c_elementData_915e3 2 (some (.object "java/lang/Object")), Cond.fieldLink RJx4a65c 9 "java/util/ArrayList" "elementData" "[Ljava/lang/Object;", Cond.methodLink RX1 70 yX0_isNew, Cond.instanceMethod yX0_isNew, Cond.selects RX0 yX0_isNew yX0_isNew, Cond.initialized RX0, Cond.code yX0_isNew cX0_isNew 1 (some .boolean), Cond.fieldLink RX0 15 "ObjectMapper$Entity" "inSession" "Z", Cond.fieldLink RX0 34 "ObjectMapper$Entity" "hasSnapshot" "Z", Cond.methodLink RX1 40 yX1_tableFor, Cond.instanceMethod yX1_tableFor]
def wsX1_isThereBehind_r3 : List Cond := [Cond.selects RX1 yX1_tableFor yX1_tableFor, Cond.initialized RX1, Cond.code yX1_tableFor cX1_tableFor 2 (some (.object "ObjectMapper$Table")), Cond.fieldLink RX1 15 "ObjectMapper$Flush" "authorTable" "LObjectMapper$Table;", Cond.fieldLink RX1 19 "ObjectMapper$Flush" "bookTable" "LObjectMapper$Table;", Cond.methodLink RX1 44 yX5_rowAt, Cond.instanceMethod yX5_rowAt, Cond.selects RX5 yX5_rowAt yX5_rowAt, Cond.initialized RX5, Cond.code yX5_rowAt cX5_rowAt 2 (some (.object "ObjectMapper$Row")), Cond.fieldLink RX5 10 "ObjectMapper$Table" "places" "Ljava/util/ArrayList;", Cond.fieldLink RX5 19 "ObjectMapper$Table" "noRow" "LObjectMapper$Row;", Cond.classLink RX5 16 "ObjectMapper$Row", Cond.methodLink RX5 23 yJx4a65c_size_8abf5, Cond.methodLink RX5 31 yJx4a65c_get_915e3]
def wsX1_isThereBehind : List Cond := .code yX1_isThereBehind cX1_isThereBehind 4 (some .boolean) :: ((wsX1_isThereBehind_r1 ++ (wsX1_isThereBehind_r2 ++ wsX1_isThereBehind_r3)) ++ wsX10 ++ wsX00 ++ wsX30 ++ wsX40 ++ wsJx4a65c0 ++ wsX50)
def wsX6_otherKind : List Cond := .code yX6_otherKind cX6_otherKind 1 (some .int) :: ([])
def wsX1_leavesDanglingIn_r1 : List Cond := [Cond.fieldLink RX1 9 "ObjectMapper$Flush" "session" "LObjectMapper$Session;", Cond.methodLink RX1 30 yX4_sizeOf, Cond.instanceMethod yX4_sizeOf, Cond.selects RX4 yX4_sizeOf yX4_sizeOf, Cond.initialized RX4, Cond.code yX4_sizeOf cX4_sizeOf 2 (some .int), Cond.methodLink RX4 28 yX4_listOf, Cond.instanceMethod yX4_listOf, Cond.selects RX4 yX4_listOf yX4_listOf, Cond.code yX4_listOf cX4_listOf 2 (some (.object "java/util/ArrayList")), Cond.fieldLink RX4 12 "ObjectMapper$Session" "authorPlaces" "Ljava/util/ArrayList;", Cond.fieldLink RX4 18 "ObjectMapper$Session" "bookPlaces" "Ljava/util/ArrayList;", Cond.methodLink RX4 32 yJx4a65c_size_8abf5, Cond.instanceMethod yJx4a65c_size_8abf5, Cond.selects RJx4a65c yJx4a65c_size_8abf5 yJx4a65c_size_8abf5, Cond.initialized RJx4a65c, Cond.code yJx4a65c_size_8abf5 cJx4a65c_size_8abf5 1 (some .int), Cond.fieldLink RJx4a65c 48 "java/util/ArrayList" "size" "I", Cond.methodLink RX1 59 yX1_referenceBehind, Cond.instanceMethod yX1_referenceBehind, Cond.selects RX1 yX1_referenceBehind yX1_referenceBehind, Cond.initialized RX1, Cond.code yX1_referenceBehind cX1_referenceBehind 4 (some .int), Cond.fieldLink RX1 86 "ObjectMapper$Entity" "reference" "I"]
def wsX1_leavesDanglingIn_r2 : List Cond := [Cond.fieldLink RX1 90 "ObjectMapper$Row" "reference" "I", Cond.methodLink RX1 36 yX4_entityAt, Cond.instanceMethod yX4_entityAt, Cond.selects RX4 yX4_entityAt yX4_entityAt, Cond.code yX4_entityAt cX4_entityAt 4 (some (.object "ObjectMapper$Entity")), Cond.fieldLink RX4 24 "ObjectMapper$Session" "nobody" "LObjectMapper$Entity;", Cond.classLink RX4 21 "ObjectMapper$Entity", Cond.methodLink RX4 40 yJx4a65c_get_915e3, Cond.instanceMethod yJx4a65c_get_915e3, Cond.selects RJx4a65c yJx4a65c_get_915e3 yJx4a65c_get_915e3, Cond.code yJx4a65c_get_915e3 cJx4a65c_get_915e3 2 (some (.object "java/lang/Object")), Cond.methodLink RJx4a65c 118 yJ15_checkIndex_7cf53, Cond.static yJ15_checkIndex_7cf53, Cond.initialized RJ15, Cond.code yJ15_checkIndex_7cf53 cJ15_checkIndex_7cf53 2 (some .int), Cond.methodLink RJ15 105 yJ3_checkIndex_8e157, Cond.static yJ3_checkIndex_8e157, Cond.initialized RJ3, Cond.code yJ3_checkIndex_8e157 cJ3_checkIndex_8e157 3 (some .int), Cond.methodLink RJx4a65c 123 yJx4a65c_elementData_915e3, Cond.instanceMethod yJx4a65c_elementData_915e3, Cond.selects RJx4a65c yJx4a65c_elementData_915e3 yJx4a65c_elementData_915e3, Cond.code yJx4a65c_elementData_915e3 cJx4a65c_elementData_915e3 2 (some (.object "java/lang/Object")), Cond.fieldLink RJx4a65c 9 "java/util/ArrayList" "elementData" "[Ljava/lang/Object;"]
def wsX1_leavesDanglingIn_r3 : List Cond := [Cond.methodLink RX1 70 yX0_isNew, Cond.instanceMethod yX0_isNew, Cond.selects RX0 yX0_isNew yX0_isNew, Cond.initialized RX0, Cond.code yX0_isNew cX0_isNew 1 (some .boolean), Cond.fieldLink RX0 15 "ObjectMapper$Entity" "inSession" "Z", Cond.fieldLink RX0 34 "ObjectMapper$Entity" "hasSnapshot" "Z", Cond.methodLink RX1 83 yX0_isChanged, Cond.instanceMethod yX0_isChanged, Cond.selects RX0 yX0_isChanged yX0_isChanged, Cond.code yX0_isChanged cX0_isChanged 1 (some .boolean), Cond.fieldLink RX0 19 "ObjectMapper$Entity" "name" "I", Cond.fieldLink RX0 37 "ObjectMapper$Entity" "snapshotName" "I", Cond.fieldLink RX0 9 "ObjectMapper$Entity" "reference" "I", Cond.fieldLink RX0 40 "ObjectMapper$Entity" "snapshotReference" "I", Cond.methodLink RX1 40 yX1_tableFor, Cond.instanceMethod yX1_tableFor, Cond.selects RX1 yX1_tableFor yX1_tableFor, Cond.code yX1_tableFor cX1_tableFor 2 (some (.object "ObjectMapper$Table")), Cond.fieldLink RX1 15 "ObjectMapper$Flush" "authorTable" "LObjectMapper$Table;", Cond.fieldLink RX1 19 "ObjectMapper$Flush" "bookTable" "LObjectMapper$Table;", Cond.methodLink RX1 44 yX5_rowAt, Cond.instanceMethod yX5_rowAt, Cond.selects RX5 yX5_rowAt yX5_rowAt]
def wsX1_leavesDanglingIn_r4 : List Cond := [Cond.initialized RX5, Cond.code yX5_rowAt cX5_rowAt 2 (some (.object "ObjectMapper$Row")), Cond.fieldLink RX5 10 "ObjectMapper$Table" "places" "Ljava/util/ArrayList;", Cond.fieldLink RX5 19 "ObjectMapper$Table" "noRow" "LObjectMapper$Row;", Cond.classLink RX5 16 "ObjectMapper$Row", Cond.methodLink RX5 23 yJx4a65c_size_8abf5, Cond.methodLink RX5 31 yJx4a65c_get_915e3, Cond.methodLink RX1 63 yX1_isThereBehind, Cond.instanceMethod yX1_isThereBehind, Cond.selects RX1 yX1_isThereBehind yX1_isThereBehind, Cond.code yX1_isThereBehind cX1_isThereBehind 4 (some .boolean), Cond.fieldLink RX1 74 "ObjectMapper$Entity" "struckOut" "Z", Cond.fieldLink RX1 78 "ObjectMapper$Row" "there" "Z", Cond.static yX6_otherKind, Cond.initialized RX6, Cond.code yX6_otherKind cX6_otherKind 1 (some .int)]
def wsX1_leavesDanglingIn : List Cond := .code yX1_leavesDanglingIn cX1_leavesDanglingIn 4 (some .boolean) :: ((wsX1_leavesDanglingIn_r1 ++ (wsX1_leavesDanglingIn_r2 ++ (wsX1_leavesDanglingIn_r3 ++ wsX1_leavesDanglingIn_r4))) ++ wsX10 ++ wsX40 ++ wsJx4a65c0 ++ wsX00 ++ wsX30 ++ wsX50)
def wsX1_leavesDanglingReference_r1 : List Cond := [Cond.methodLink RX1 56 yX1_leavesDanglingIn, Cond.instanceMethod yX1_leavesDanglingIn, Cond.selects RX1 yX1_leavesDanglingIn yX1_leavesDanglingIn, Cond.initialized RX1, Cond.code yX1_leavesDanglingIn cX1_leavesDanglingIn 4 (some .boolean), Cond.fieldLink RX1 9 "ObjectMapper$Flush" "session" "LObjectMapper$Session;", Cond.methodLink RX1 30 yX4_sizeOf, Cond.instanceMethod yX4_sizeOf, Cond.selects RX4 yX4_sizeOf yX4_sizeOf, Cond.initialized RX4, Cond.code yX4_sizeOf cX4_sizeOf 2 (some .int), Cond.methodLink RX4 28 yX4_listOf, Cond.instanceMethod yX4_listOf, Cond.selects RX4 yX4_listOf yX4_listOf, Cond.code yX4_listOf cX4_listOf 2 (some (.object "java/util/ArrayList")), Cond.fieldLink RX4 12 "ObjectMapper$Session" "authorPlaces" "Ljava/util/ArrayList;", Cond.fieldLink RX4 18 "ObjectMapper$Session" "bookPlaces" "Ljava/util/ArrayList;", Cond.methodLink RX4 32 yJx4a65c_size_8abf5, Cond.instanceMethod yJx4a65c_size_8abf5, Cond.selects RJx4a65c yJx4a65c_size_8abf5 yJx4a65c_size_8abf5, Cond.initialized RJx4a65c, Cond.code yJx4a65c_size_8abf5 cJx4a65c_size_8abf5 1 (some .int), Cond.fieldLink RJx4a65c 48 "java/util/ArrayList" "size" "I", Cond.methodLink RX1 59 yX1_referenceBehind]
def wsX1_leavesDanglingReference_r2 : List Cond := [Cond.instanceMethod yX1_referenceBehind, Cond.selects RX1 yX1_referenceBehind yX1_referenceBehind, Cond.code yX1_referenceBehind cX1_referenceBehind 4 (some .int), Cond.fieldLink RX1 86 "ObjectMapper$Entity" "reference" "I", Cond.fieldLink RX1 90 "ObjectMapper$Row" "reference" "I", Cond.methodLink RX1 36 yX4_entityAt, Cond.instanceMethod yX4_entityAt, Cond.selects RX4 yX4_entityAt yX4_entityAt, Cond.code yX4_entityAt cX4_entityAt 4 (some (.object "ObjectMapper$Entity")), Cond.fieldLink RX4 24 "ObjectMapper$Session" "nobody" "LObjectMapper$Entity;", Cond.classLink RX4 21 "ObjectMapper$Entity", Cond.methodLink RX4 40 yJx4a65c_get_915e3, Cond.instanceMethod yJx4a65c_get_915e3, Cond.selects RJx4a65c yJx4a65c_get_915e3 yJx4a65c_get_915e3, Cond.code yJx4a65c_get_915e3 cJx4a65c_get_915e3 2 (some (.object "java/lang/Object")), Cond.methodLink RJx4a65c 118 yJ15_checkIndex_7cf53, Cond.static yJ15_checkIndex_7cf53, Cond.initialized RJ15, Cond.code yJ15_checkIndex_7cf53 cJ15_checkIndex_7cf53 2 (some .int), Cond.methodLink RJ15 105 yJ3_checkIndex_8e157, Cond.static yJ3_checkIndex_8e157, Cond.initialized RJ3, Cond.code yJ3_checkIndex_8e157 cJ3_checkIndex_8e157 3 (some .int), Cond.methodLink RJx4a65c 123 yJx4a65c_elementData_915e3]
def wsX1_leavesDanglingReference_r3 : List Cond := [Cond.instanceMethod yJx4a65c_elementData_915e3, Cond.selects RJx4a65c yJx4a65c_elementData_915e3 yJx4a65c_elementData_915e3, Cond.code yJx4a65c_elementData_915e3 cJx4a65c_elementData_915e3 2 (some (.object "java/lang/Object")), Cond.fieldLink RJx4a65c 9 "java/util/ArrayList" "elementData" "[Ljava/lang/Object;", Cond.methodLink RX1 70 yX0_isNew, Cond.instanceMethod yX0_isNew, Cond.selects RX0 yX0_isNew yX0_isNew, Cond.initialized RX0, Cond.code yX0_isNew cX0_isNew 1 (some .boolean), Cond.fieldLink RX0 15 "ObjectMapper$Entity" "inSession" "Z", Cond.fieldLink RX0 34 "ObjectMapper$Entity" "hasSnapshot" "Z", Cond.methodLink RX1 83 yX0_isChanged, Cond.instanceMethod yX0_isChanged, Cond.selects RX0 yX0_isChanged yX0_isChanged, Cond.code yX0_isChanged cX0_isChanged 1 (some .boolean), Cond.fieldLink RX0 19 "ObjectMapper$Entity" "name" "I", Cond.fieldLink RX0 37 "ObjectMapper$Entity" "snapshotName" "I", Cond.fieldLink RX0 9 "ObjectMapper$Entity" "reference" "I", Cond.fieldLink RX0 40 "ObjectMapper$Entity" "snapshotReference" "I", Cond.methodLink RX1 40 yX1_tableFor, Cond.instanceMethod yX1_tableFor, Cond.selects RX1 yX1_tableFor yX1_tableFor, Cond.code yX1_tableFor cX1_tableFor 2 (some (.object "ObjectMapper$Table")), Cond.fieldLink RX1 15 "ObjectMapper$Flush" "authorTable" "LObjectMapper$Table;"]
def wsX1_leavesDanglingReference_r4 : List Cond := [Cond.fieldLink RX1 19 "ObjectMapper$Flush" "bookTable" "LObjectMapper$Table;", Cond.methodLink RX1 44 yX5_rowAt, Cond.instanceMethod yX5_rowAt, Cond.selects RX5 yX5_rowAt yX5_rowAt, Cond.initialized RX5, Cond.code yX5_rowAt cX5_rowAt 2 (some (.object "ObjectMapper$Row")), Cond.fieldLink RX5 10 "ObjectMapper$Table" "places" "Ljava/util/ArrayList;", Cond.fieldLink RX5 19 "ObjectMapper$Table" "noRow" "LObjectMapper$Row;", Cond.classLink RX5 16 "ObjectMapper$Row", Cond.methodLink RX5 23 yJx4a65c_size_8abf5, Cond.methodLink RX5 31 yJx4a65c_get_915e3, Cond.methodLink RX1 63 yX1_isThereBehind, Cond.instanceMethod yX1_isThereBehind, Cond.selects RX1 yX1_isThereBehind yX1_isThereBehind, Cond.code yX1_isThereBehind cX1_isThereBehind 4 (some .boolean), Cond.fieldLink RX1 74 "ObjectMapper$Entity" "struckOut" "Z", Cond.fieldLink RX1 78 "ObjectMapper$Row" "there" "Z", Cond.static yX6_otherKind, Cond.initialized RX6, Cond.code yX6_otherKind cX6_otherKind 1 (some .int)]
def wsX1_leavesDanglingReference : List Cond := .code yX1_leavesDanglingReference cX1_leavesDanglingReference 1 (some .boolean) :: ((wsX1_leavesDanglingReference_r1 ++ (wsX1_leavesDanglingReference_r2 ++ (wsX1_leavesDanglingReference_r3 ++ wsX1_leavesDanglingReference_r4))) ++ wsX10 ++ wsX40 ++ wsJx4a65c0 ++ wsX00 ++ wsX30 ++ wsX50)
def wsX3_insert : List Cond := .code yX3_insert cX3_insert 3 none :: ([.fieldLink RX3 15 "ObjectMapper$Row" "there" "Z", .fieldLink RX3 19 "ObjectMapper$Row" "name" "I", .fieldLink RX3 9 "ObjectMapper$Row" "reference" "I", .fieldLink RX3 22 "ObjectMapper$Row" "version" "I"] ++ wsX30)
def wsJ7_copyOf_59c91 : List Cond := .code yJ7_copyOf_59c91 cJ7_copyOf_59c91 3 (some (.array .int)) :: ([.methodLink RJ7 316 ⟨"[I", "clone", "()Ljava/lang/Object;"⟩, .sameMethod "[I" "java/lang/Object" "clone" "()Ljava/lang/Object;", .native ⟨"java/lang/Object", "clone", "()Ljava/lang/Object;"⟩, .instanceMethod ⟨"java/lang/Object", "clone", "()Ljava/lang/Object;"⟩, .selects "[I" ⟨"[I", "clone", "()Ljava/lang/Object;"⟩ ⟨"java/lang/Object", "clone", "()Ljava/lang/Object;"⟩, .classLink RJ7 317 "[I", .arrayClass .int, .methodLink RJ7 304 Lib.Math.min.name, .static Lib.Math.min.name, .initialized "java/lang/Math", .code Lib.Math.min.name Lib.Math.min.code 2 (some .int), .methodLink RJ7 150 arraycopyName, .native arraycopyName, .static arraycopyName, .initialized "java/lang/System"])
def wsX2_note : List Cond := .code yX2_note cX2_note 4 none :: ([.fieldLink RX2 18 "ObjectMapper$Journal" "size" "I", .fieldLink RX2 11 "ObjectMapper$Journal" "actions" "[I", .fieldLink RX2 15 "ObjectMapper$Journal" "rowNumbers" "[I", .methodLink RX2 22 yJ7_copyOf_59c91, .static yJ7_copyOf_59c91, .initialized RJ7, .code yJ7_copyOf_59c91 cJ7_copyOf_59c91 3 (some (.array .int)), .methodLink RJ7 316 ⟨"[I", "clone", "()Ljava/lang/Object;"⟩, .sameMethod "[I" "java/lang/Object" "clone" "()Ljava/lang/Object;", .native ⟨"java/lang/Object", "clone", "()Ljava/lang/Object;"⟩, .instanceMethod ⟨"java/lang/Object", "clone", "()Ljava/lang/Object;"⟩, .selects "[I" ⟨"[I", "clone", "()Ljava/lang/Object;"⟩ ⟨"java/lang/Object", "clone", "()Ljava/lang/Object;"⟩, .classLink RJ7 317 "[I", .arrayClass .int, .methodLink RJ7 304 Lib.Math.min.name, .static Lib.Math.min.name, .initialized "java/lang/Math", .code Lib.Math.min.name Lib.Math.min.code 2 (some .int), .methodLink RJ7 150 arraycopyName, .native arraycopyName, .static arraycopyName, .initialized "java/lang/System"] ++ wsX20)
def wsX1_insert_r1 : List Cond := [Cond.fieldLink RX1 108 "ObjectMapper$Entity" "name" "I", Cond.fieldLink RX1 22 "ObjectMapper$Flush" "journal" "LObjectMapper$Journal;", Cond.methodLink RX1 40 yX1_tableFor, Cond.instanceMethod yX1_tableFor, Cond.selects RX1 yX1_tableFor yX1_tableFor, Cond.initialized RX1, Cond.code yX1_tableFor cX1_tableFor 2 (some (.object "ObjectMapper$Table")), Cond.fieldLink RX1 15 "ObjectMapper$Flush" "authorTable" "LObjectMapper$Table;", Cond.fieldLink RX1 19 "ObjectMapper$Flush" "bookTable" "LObjectMapper$Table;", Cond.methodLink RX1 44 yX5_rowAt, Cond.instanceMethod yX5_rowAt, Cond.selects RX5 yX5_rowAt yX5_rowAt, Cond.initialized RX5, Cond.code yX5_rowAt cX5_rowAt 2 (some (.object "ObjectMapper$Row")), Cond.fieldLink RX5 10 "ObjectMapper$Table" "places" "Ljava/util/ArrayList;", Cond.fieldLink RX5 19 "ObjectMapper$Table" "noRow" "LObjectMapper$Row;", Cond.classLink RX5 16 "ObjectMapper$Row", Cond.methodLink RX5 23 yJx4a65c_size_8abf5, Cond.instanceMethod yJx4a65c_size_8abf5, Cond.selects RJx4a65c yJx4a65c_size_8abf5 yJx4a65c_size_8abf5, Cond.initialized RJx4a65c, Cond.code yJx4a65c_size_8abf5 cJx4a65c_size_8abf5 1 (some .int), Cond.fieldLink RJx4a65c 48 "java/util/ArrayList" "size" "I", Cond.methodLink RX5 31 yJx4a65c_get_915e3]
def wsX1_insert_r2 : List Cond := [Cond.instanceMethod yJx4a65c_get_915e3, Cond.selects RJx4a65c yJx4a65c_get_915e3 yJx4a65c_get_915e3, Cond.code yJx4a65c_get_915e3 cJx4a65c_get_915e3 2 (some (.object "java/lang/Object")), Cond.methodLink RJx4a65c 118 yJ15_checkIndex_7cf53, Cond.static yJ15_checkIndex_7cf53, Cond.initialized RJ15, Cond.code yJ15_checkIndex_7cf53 cJ15_checkIndex_7cf53 2 (some .int), Cond.methodLink RJ15 105 yJ3_checkIndex_8e157, Cond.static yJ3_checkIndex_8e157, Cond.initialized RJ3, Cond.code yJ3_checkIndex_8e157 cJ3_checkIndex_8e157 3 (some .int), Cond.methodLink RJx4a65c 123 yJx4a65c_elementData_915e3, Cond.instanceMethod yJx4a65c_elementData_915e3, Cond.selects RJx4a65c yJx4a65c_elementData_915e3 yJx4a65c_elementData_915e3, Cond.code yJx4a65c_elementData_915e3 cJx4a65c_elementData_915e3 2 (some (.object "java/lang/Object")), Cond.fieldLink RJx4a65c 9 "java/util/ArrayList" "elementData" "[Ljava/lang/Object;", Cond.methodLink RX1 111 yX3_insert, Cond.instanceMethod yX3_insert, Cond.selects RX3 yX3_insert yX3_insert, Cond.initialized RX3, Cond.code yX3_insert cX3_insert 3 none, Cond.fieldLink RX3 15 "ObjectMapper$Row" "there" "Z", Cond.fieldLink RX3 19 "ObjectMapper$Row" "name" "I", Cond.fieldLink RX3 9 "ObjectMapper$Row" "reference" "I"]
def wsX1_insert_r3 : List Cond := [Cond.fieldLink RX3 22 "ObjectMapper$Row" "version" "I", Cond.methodLink RX1 114 yX2_note, Cond.instanceMethod yX2_note, Cond.selects RX2 yX2_note yX2_note, Cond.initialized RX2, Cond.code yX2_note cX2_note 4 none, Cond.fieldLink RX2 18 "ObjectMapper$Journal" "size" "I", Cond.fieldLink RX2 11 "ObjectMapper$Journal" "actions" "[I", Cond.fieldLink RX2 15 "ObjectMapper$Journal" "rowNumbers" "[I", Cond.methodLink RX2 22 yJ7_copyOf_59c91, Cond.static yJ7_copyOf_59c91, Cond.initialized RJ7, Cond.code yJ7_copyOf_59c91 cJ7_copyOf_59c91 3 (some (.array .int)), Cond.methodLink RJ7 316 ⟨"[I", "clone", "()Ljava/lang/Object;"⟩, Cond.sameMethod "[I" "java/lang/Object" "clone" "()Ljava/lang/Object;", Cond.native ⟨"java/lang/Object", "clone", "()Ljava/lang/Object;"⟩, Cond.instanceMethod ⟨"java/lang/Object", "clone", "()Ljava/lang/Object;"⟩, Cond.selects "[I" ⟨"[I", "clone", "()Ljava/lang/Object;"⟩ ⟨"java/lang/Object", "clone", "()Ljava/lang/Object;"⟩, Cond.classLink RJ7 317 "[I", Cond.arrayClass .int, Cond.methodLink RJ7 304 Lib.Math.min.name, Cond.static Lib.Math.min.name, Cond.initialized "java/lang/Math", Cond.code Lib.Math.min.name Lib.Math.min.code 2 (some .int)]
def wsX1_insert_r4 : List Cond := [Cond.methodLink RJ7 150 arraycopyName, Cond.native arraycopyName, Cond.static arraycopyName, Cond.initialized "java/lang/System", Cond.methodLink RX1 120 yX0_takeSnapshot, Cond.instanceMethod yX0_takeSnapshot, Cond.selects RX0 yX0_takeSnapshot yX0_takeSnapshot, Cond.initialized RX0, Cond.code yX0_takeSnapshot cX0_takeSnapshot 2 none, Cond.fieldLink RX0 34 "ObjectMapper$Entity" "hasSnapshot" "Z", Cond.fieldLink RX0 22 "ObjectMapper$Row" "name" "I", Cond.fieldLink RX0 37 "ObjectMapper$Entity" "snapshotName" "I", Cond.fieldLink RX0 25 "ObjectMapper$Row" "reference" "I", Cond.fieldLink RX0 40 "ObjectMapper$Entity" "snapshotReference" "I", Cond.fieldLink RX0 43 "ObjectMapper$Row" "version" "I", Cond.fieldLink RX0 46 "ObjectMapper$Entity" "snapshotVersion" "I"]
def wsX1_insert : List Cond := .code yX1_insert cX1_insert 6 none :: ((wsX1_insert_r1 ++ (wsX1_insert_r2 ++ (wsX1_insert_r3 ++ wsX1_insert_r4))) ++ wsX00 ++ wsX10 ++ wsX50 ++ wsJx4a65c0 ++ wsX30 ++ wsX20)
def wsX1_insertAuthors_r1 : List Cond := [Cond.fieldLink RX1 9 "ObjectMapper$Flush" "session" "LObjectMapper$Session;", Cond.fieldLink RX1 19 "ObjectMapper$Flush" "bookTable" "LObjectMapper$Table;", Cond.fieldLink RX1 86 "ObjectMapper$Entity" "reference" "I", Cond.fieldLink RX1 78 "ObjectMapper$Row" "there" "Z", Cond.methodLink RX1 30 yX4_sizeOf, Cond.instanceMethod yX4_sizeOf, Cond.selects RX4 yX4_sizeOf yX4_sizeOf, Cond.initialized RX4, Cond.code yX4_sizeOf cX4_sizeOf 2 (some .int), Cond.methodLink RX4 28 yX4_listOf, Cond.instanceMethod yX4_listOf, Cond.selects RX4 yX4_listOf yX4_listOf, Cond.code yX4_listOf cX4_listOf 2 (some (.object "java/util/ArrayList")), Cond.fieldLink RX4 12 "ObjectMapper$Session" "authorPlaces" "Ljava/util/ArrayList;", Cond.fieldLink RX4 18 "ObjectMapper$Session" "bookPlaces" "Ljava/util/ArrayList;", Cond.methodLink RX4 32 yJx4a65c_size_8abf5, Cond.instanceMethod yJx4a65c_size_8abf5, Cond.selects RJx4a65c yJx4a65c_size_8abf5 yJx4a65c_size_8abf5, Cond.initialized RJx4a65c, Cond.code yJx4a65c_size_8abf5 cJx4a65c_size_8abf5 1 (some .int), Cond.fieldLink RJx4a65c 48 "java/util/ArrayList" "size" "I", Cond.methodLink RX1 36 yX4_entityAt, Cond.instanceMethod yX4_entityAt, Cond.selects RX4 yX4_entityAt yX4_entityAt]
def wsX1_insertAuthors_r2 : List Cond := [Cond.code yX4_entityAt cX4_entityAt 4 (some (.object "ObjectMapper$Entity")), Cond.fieldLink RX4 24 "ObjectMapper$Session" "nobody" "LObjectMapper$Entity;", Cond.classLink RX4 21 "ObjectMapper$Entity", Cond.methodLink RX4 40 yJx4a65c_get_915e3, Cond.instanceMethod yJx4a65c_get_915e3, Cond.selects RJx4a65c yJx4a65c_get_915e3 yJx4a65c_get_915e3, Cond.code yJx4a65c_get_915e3 cJx4a65c_get_915e3 2 (some (.object "java/lang/Object")), Cond.methodLink RJx4a65c 118 yJ15_checkIndex_7cf53, Cond.static yJ15_checkIndex_7cf53, Cond.initialized RJ15, Cond.code yJ15_checkIndex_7cf53 cJ15_checkIndex_7cf53 2 (some .int), Cond.methodLink RJ15 105 yJ3_checkIndex_8e157, Cond.static yJ3_checkIndex_8e157, Cond.initialized RJ3, Cond.code yJ3_checkIndex_8e157 cJ3_checkIndex_8e157 3 (some .int), Cond.methodLink RJx4a65c 123 yJx4a65c_elementData_915e3, Cond.instanceMethod yJx4a65c_elementData_915e3, Cond.selects RJx4a65c yJx4a65c_elementData_915e3 yJx4a65c_elementData_915e3, Cond.code yJx4a65c_elementData_915e3 cJx4a65c_elementData_915e3 2 (some (.object "java/lang/Object")), Cond.fieldLink RJx4a65c 9 "java/util/ArrayList" "elementData" "[Ljava/lang/Object;", Cond.methodLink RX1 70 yX0_isNew, Cond.instanceMethod yX0_isNew, Cond.selects RX0 yX0_isNew yX0_isNew, Cond.initialized RX0]
def wsX1_insertAuthors_r3 : List Cond := [Cond.code yX0_isNew cX0_isNew 1 (some .boolean), Cond.fieldLink RX0 15 "ObjectMapper$Entity" "inSession" "Z", Cond.fieldLink RX0 34 "ObjectMapper$Entity" "hasSnapshot" "Z", Cond.methodLink RX1 44 yX5_rowAt, Cond.instanceMethod yX5_rowAt, Cond.selects RX5 yX5_rowAt yX5_rowAt, Cond.initialized RX5, Cond.code yX5_rowAt cX5_rowAt 2 (some (.object "ObjectMapper$Row")), Cond.fieldLink RX5 10 "ObjectMapper$Table" "places" "Ljava/util/ArrayList;", Cond.fieldLink RX5 19 "ObjectMapper$Table" "noRow" "LObjectMapper$Row;", Cond.classLink RX5 16 "ObjectMapper$Row", Cond.methodLink RX5 23 yJx4a65c_size_8abf5, Cond.methodLink RX5 31 yJx4a65c_get_915e3, Cond.methodLink RX1 104 yX1_insert, Cond.instanceMethod yX1_insert, Cond.selects RX1 yX1_insert yX1_insert, Cond.initialized RX1, Cond.code yX1_insert cX1_insert 6 none, Cond.fieldLink RX1 108 "ObjectMapper$Entity" "name" "I", Cond.fieldLink RX1 22 "ObjectMapper$Flush" "journal" "LObjectMapper$Journal;", Cond.methodLink RX1 40 yX1_tableFor, Cond.instanceMethod yX1_tableFor, Cond.selects RX1 yX1_tableFor yX1_tableFor, Cond.code yX1_tableFor cX1_tableFor 2 (some (.object "ObjectMapper$Table"))]
def wsX1_insertAuthors_r4 : List Cond := [Cond.fieldLink RX1 15 "ObjectMapper$Flush" "authorTable" "LObjectMapper$Table;", Cond.methodLink RX1 111 yX3_insert, Cond.instanceMethod yX3_insert, Cond.selects RX3 yX3_insert yX3_insert, Cond.initialized RX3, Cond.code yX3_insert cX3_insert 3 none, Cond.fieldLink RX3 15 "ObjectMapper$Row" "there" "Z", Cond.fieldLink RX3 19 "ObjectMapper$Row" "name" "I", Cond.fieldLink RX3 9 "ObjectMapper$Row" "reference" "I", Cond.fieldLink RX3 22 "ObjectMapper$Row" "version" "I", Cond.methodLink RX1 114 yX2_note, Cond.instanceMethod yX2_note, Cond.selects RX2 yX2_note yX2_note, Cond.initialized RX2, Cond.code yX2_note cX2_note 4 none, Cond.fieldLink RX2 18 "ObjectMapper$Journal" "size" "I", Cond.fieldLink RX2 11 "ObjectMapper$Journal" "actions" "[I", Cond.fieldLink RX2 15 "ObjectMapper$Journal" "rowNumbers" "[I", Cond.methodLink RX2 22 yJ7_copyOf_59c91, Cond.static yJ7_copyOf_59c91, Cond.initialized RJ7, Cond.code yJ7_copyOf_59c91 cJ7_copyOf_59c91 3 (some (.array .int)), Cond.methodLink RJ7 316 ⟨"[I", "clone", "()Ljava/lang/Object;"⟩, Cond.sameMethod "[I" "java/lang/Object" "clone" "()Ljava/lang/Object;"]
def wsX1_insertAuthors_r5 : List Cond := [Cond.native ⟨"java/lang/Object", "clone", "()Ljava/lang/Object;"⟩, Cond.instanceMethod ⟨"java/lang/Object", "clone", "()Ljava/lang/Object;"⟩, Cond.selects "[I" ⟨"[I", "clone", "()Ljava/lang/Object;"⟩ ⟨"java/lang/Object", "clone", "()Ljava/lang/Object;"⟩, Cond.classLink RJ7 317 "[I", Cond.arrayClass .int, Cond.methodLink RJ7 304 Lib.Math.min.name, Cond.static Lib.Math.min.name, Cond.initialized "java/lang/Math", Cond.code Lib.Math.min.name Lib.Math.min.code 2 (some .int), Cond.methodLink RJ7 150 arraycopyName, Cond.native arraycopyName, Cond.static arraycopyName, Cond.initialized "java/lang/System", Cond.methodLink RX1 120 yX0_takeSnapshot, Cond.instanceMethod yX0_takeSnapshot, Cond.selects RX0 yX0_takeSnapshot yX0_takeSnapshot, Cond.code yX0_takeSnapshot cX0_takeSnapshot 2 none, Cond.fieldLink RX0 22 "ObjectMapper$Row" "name" "I", Cond.fieldLink RX0 37 "ObjectMapper$Entity" "snapshotName" "I", Cond.fieldLink RX0 25 "ObjectMapper$Row" "reference" "I", Cond.fieldLink RX0 40 "ObjectMapper$Entity" "snapshotReference" "I", Cond.fieldLink RX0 43 "ObjectMapper$Row" "version" "I", Cond.fieldLink RX0 46 "ObjectMapper$Entity" "snapshotVersion" "I"]
def wsX1_insertAuthors : List Cond := .code yX1_insertAuthors cX1_insertAuthors 4 none :: ((wsX1_insertAuthors_r1 ++ (wsX1_insertAuthors_r2 ++ (wsX1_insertAuthors_r3 ++ (wsX1_insertAuthors_r4 ++ wsX1_insertAuthors_r5)))) ++ wsX10 ++ wsX00 ++ wsX30 ++ wsX40 ++ wsJx4a65c0 ++ wsX50 ++ wsX20)
def wsX1_insertBooks_r1 : List Cond := [Cond.fieldLink RX1 9 "ObjectMapper$Flush" "session" "LObjectMapper$Session;", Cond.fieldLink RX1 86 "ObjectMapper$Entity" "reference" "I", Cond.methodLink RX1 30 yX4_sizeOf, Cond.instanceMethod yX4_sizeOf, Cond.selects RX4 yX4_sizeOf yX4_sizeOf, Cond.initialized RX4, Cond.code yX4_sizeOf cX4_sizeOf 2 (some .int), Cond.methodLink RX4 28 yX4_listOf, Cond.instanceMethod yX4_listOf, Cond.selects RX4 yX4_listOf yX4_listOf, Cond.code yX4_listOf cX4_listOf 2 (some (.object "java/util/ArrayList")), Cond.fieldLink RX4 12 "ObjectMapper$Session" "authorPlaces" "Ljava/util/ArrayList;", Cond.fieldLink RX4 18 "ObjectMapper$Session" "bookPlaces" "Ljava/util/ArrayList;", Cond.methodLink RX4 32 yJx4a65c_size_8abf5, Cond.instanceMethod yJx4a65c_size_8abf5, Cond.selects RJx4a65c yJx4a65c_size_8abf5 yJx4a65c_size_8abf5, Cond.initialized RJx4a65c, Cond.code yJx4a65c_size_8abf5 cJx4a65c_size_8abf5 1 (some .int), Cond.fieldLink RJx4a65c 48 "java/util/ArrayList" "size" "I", Cond.methodLink RX1 36 yX4_entityAt, Cond.instanceMethod yX4_entityAt, Cond.selects RX4 yX4_entityAt yX4_entityAt, Cond.code yX4_entityAt cX4_entityAt 4 (some (.object "ObjectMapper$Entity")), Cond.fieldLink RX4 24 "ObjectMapper$Session" "nobody" "LObjectMapper$Entity;"]
def wsX1_insertBooks_r2 : List Cond := [Cond.classLink RX4 21 "ObjectMapper$Entity", Cond.methodLink RX4 40 yJx4a65c_get_915e3, Cond.instanceMethod yJx4a65c_get_915e3, Cond.selects RJx4a65c yJx4a65c_get_915e3 yJx4a65c_get_915e3, Cond.code yJx4a65c_get_915e3 cJx4a65c_get_915e3 2 (some (.object "java/lang/Object")), Cond.methodLink RJx4a65c 118 yJ15_checkIndex_7cf53, Cond.static yJ15_checkIndex_7cf53, Cond.initialized RJ15, Cond.code yJ15_checkIndex_7cf53 cJ15_checkIndex_7cf53 2 (some .int), Cond.methodLink RJ15 105 yJ3_checkIndex_8e157, Cond.static yJ3_checkIndex_8e157, Cond.initialized RJ3, Cond.code yJ3_checkIndex_8e157 cJ3_checkIndex_8e157 3 (some .int), Cond.methodLink RJx4a65c 123 yJx4a65c_elementData_915e3, Cond.instanceMethod yJx4a65c_elementData_915e3, Cond.selects RJx4a65c yJx4a65c_elementData_915e3 yJx4a65c_elementData_915e3, Cond.code yJx4a65c_elementData_915e3 cJx4a65c_elementData_915e3 2 (some (.object "java/lang/Object")), Cond.fieldLink RJx4a65c 9 "java/util/ArrayList" "elementData" "[Ljava/lang/Object;", Cond.methodLink RX1 70 yX0_isNew, Cond.instanceMethod yX0_isNew, Cond.selects RX0 yX0_isNew yX0_isNew, Cond.initialized RX0, Cond.code yX0_isNew cX0_isNew 1 (some .boolean), Cond.fieldLink RX0 15 "ObjectMapper$Entity" "inSession" "Z"]
def wsX1_insertBooks_r3 : List Cond := [Cond.fieldLink RX0 34 "ObjectMapper$Entity" "hasSnapshot" "Z", Cond.methodLink RX1 104 yX1_insert, Cond.instanceMethod yX1_insert, Cond.selects RX1 yX1_insert yX1_insert, Cond.initialized RX1, Cond.code yX1_insert cX1_insert 6 none, Cond.fieldLink RX1 108 "ObjectMapper$Entity" "name" "I", Cond.fieldLink RX1 22 "ObjectMapper$Flush" "journal" "LObjectMapper$Journal;", Cond.methodLink RX1 40 yX1_tableFor, Cond.instanceMethod yX1_tableFor, Cond.selects RX1 yX1_tableFor yX1_tableFor, Cond.code yX1_tableFor cX1_tableFor 2 (some (.object "ObjectMapper$Table")), Cond.fieldLink RX1 15 "ObjectMapper$Flush" "authorTable" "LObjectMapper$Table;", Cond.fieldLink RX1 19 "ObjectMapper$Flush" "bookTable" "LObjectMapper$Table;", Cond.methodLink RX1 44 yX5_rowAt, Cond.instanceMethod yX5_rowAt, Cond.selects RX5 yX5_rowAt yX5_rowAt, Cond.initialized RX5, Cond.code yX5_rowAt cX5_rowAt 2 (some (.object "ObjectMapper$Row")), Cond.fieldLink RX5 10 "ObjectMapper$Table" "places" "Ljava/util/ArrayList;", Cond.fieldLink RX5 19 "ObjectMapper$Table" "noRow" "LObjectMapper$Row;", Cond.classLink RX5 16 "ObjectMapper$Row", Cond.methodLink RX5 23 yJx4a65c_size_8abf5, Cond.methodLink RX5 31 yJx4a65c_get_915e3]
def wsX1_insertBooks_r4 : List Cond := [Cond.methodLink RX1 111 yX3_insert, Cond.instanceMethod yX3_insert, Cond.selects RX3 yX3_insert yX3_insert, Cond.initialized RX3, Cond.code yX3_insert cX3_insert 3 none, Cond.fieldLink RX3 15 "ObjectMapper$Row" "there" "Z", Cond.fieldLink RX3 19 "ObjectMapper$Row" "name" "I", Cond.fieldLink RX3 9 "ObjectMapper$Row" "reference" "I", Cond.fieldLink RX3 22 "ObjectMapper$Row" "version" "I", Cond.methodLink RX1 114 yX2_note, Cond.instanceMethod yX2_note, Cond.selects RX2 yX2_note yX2_note, Cond.initialized RX2, Cond.code yX2_note cX2_note 4 none, Cond.fieldLink RX2 18 "ObjectMapper$Journal" "size" "I", Cond.fieldLink RX2 11 "ObjectMapper$Journal" "actions" "[I", Cond.fieldLink RX2 15 "ObjectMapper$Journal" "rowNumbers" "[I", Cond.methodLink RX2 22 yJ7_copyOf_59c91, Cond.static yJ7_copyOf_59c91, Cond.initialized RJ7, Cond.code yJ7_copyOf_59c91 cJ7_copyOf_59c91 3 (some (.array .int)), Cond.methodLink RJ7 316 ⟨"[I", "clone", "()Ljava/lang/Object;"⟩, Cond.sameMethod "[I" "java/lang/Object" "clone" "()Ljava/lang/Object;", Cond.native ⟨"java/lang/Object", "clone", "()Ljava/lang/Object;"⟩]
def wsX1_insertBooks_r5 : List Cond := [Cond.instanceMethod ⟨"java/lang/Object", "clone", "()Ljava/lang/Object;"⟩, Cond.selects "[I" ⟨"[I", "clone", "()Ljava/lang/Object;"⟩ ⟨"java/lang/Object", "clone", "()Ljava/lang/Object;"⟩, Cond.classLink RJ7 317 "[I", Cond.arrayClass .int, Cond.methodLink RJ7 304 Lib.Math.min.name, Cond.static Lib.Math.min.name, Cond.initialized "java/lang/Math", Cond.code Lib.Math.min.name Lib.Math.min.code 2 (some .int), Cond.methodLink RJ7 150 arraycopyName, Cond.native arraycopyName, Cond.static arraycopyName, Cond.initialized "java/lang/System", Cond.methodLink RX1 120 yX0_takeSnapshot, Cond.instanceMethod yX0_takeSnapshot, Cond.selects RX0 yX0_takeSnapshot yX0_takeSnapshot, Cond.code yX0_takeSnapshot cX0_takeSnapshot 2 none, Cond.fieldLink RX0 22 "ObjectMapper$Row" "name" "I", Cond.fieldLink RX0 37 "ObjectMapper$Entity" "snapshotName" "I", Cond.fieldLink RX0 25 "ObjectMapper$Row" "reference" "I", Cond.fieldLink RX0 40 "ObjectMapper$Entity" "snapshotReference" "I", Cond.fieldLink RX0 43 "ObjectMapper$Row" "version" "I", Cond.fieldLink RX0 46 "ObjectMapper$Entity" "snapshotVersion" "I"]
def wsX1_insertBooks : List Cond := .code yX1_insertBooks cX1_insertBooks 3 none :: ((wsX1_insertBooks_r1 ++ (wsX1_insertBooks_r2 ++ (wsX1_insertBooks_r3 ++ (wsX1_insertBooks_r4 ++ wsX1_insertBooks_r5)))) ++ wsX10 ++ wsX00 ++ wsX40 ++ wsJx4a65c0 ++ wsX50 ++ wsX30 ++ wsX20)
def wsX3_update : List Cond := .code yX3_update cX3_update 3 none :: ([.fieldLink RX3 19 "ObjectMapper$Row" "name" "I", .fieldLink RX3 9 "ObjectMapper$Row" "reference" "I", .fieldLink RX3 22 "ObjectMapper$Row" "version" "I"] ++ wsX30)
def wsX1_updateChanged_r1 : List Cond := [Cond.fieldLink RX1 9 "ObjectMapper$Flush" "session" "LObjectMapper$Session;", Cond.fieldLink RX1 108 "ObjectMapper$Entity" "name" "I", Cond.fieldLink RX1 86 "ObjectMapper$Entity" "reference" "I", Cond.fieldLink RX1 22 "ObjectMapper$Flush" "journal" "LObjectMapper$Journal;", Cond.methodLink RX1 30 yX4_sizeOf, Cond.instanceMethod yX4_sizeOf, Cond.selects RX4 yX4_sizeOf yX4_sizeOf, Cond.initialized RX4, Cond.code yX4_sizeOf cX4_sizeOf 2 (some .int), Cond.methodLink RX4 28 yX4_listOf, Cond.instanceMethod yX4_listOf, Cond.selects RX4 yX4_listOf yX4_listOf, Cond.code yX4_listOf cX4_listOf 2 (some (.object "java/util/ArrayList")), Cond.fieldLink RX4 12 "ObjectMapper$Session" "authorPlaces" "Ljava/util/ArrayList;", Cond.fieldLink RX4 18 "ObjectMapper$Session" "bookPlaces" "Ljava/util/ArrayList;", Cond.methodLink RX4 32 yJx4a65c_size_8abf5, Cond.instanceMethod yJx4a65c_size_8abf5, Cond.selects RJx4a65c yJx4a65c_size_8abf5 yJx4a65c_size_8abf5, Cond.initialized RJx4a65c, Cond.code yJx4a65c_size_8abf5 cJx4a65c_size_8abf5 1 (some .int), Cond.fieldLink RJx4a65c 48 "java/util/ArrayList" "size" "I", Cond.methodLink RX1 36 yX4_entityAt, Cond.instanceMethod yX4_entityAt, Cond.selects RX4 yX4_entityAt yX4_entityAt]
def wsX1_updateChanged_r2 : List Cond := [Cond.code yX4_entityAt cX4_entityAt 4 (some (.object "ObjectMapper$Entity")), Cond.fieldLink RX4 24 "ObjectMapper$Session" "nobody" "LObjectMapper$Entity;", Cond.classLink RX4 21 "ObjectMapper$Entity", Cond.methodLink RX4 40 yJx4a65c_get_915e3, Cond.instanceMethod yJx4a65c_get_915e3, Cond.selects RJx4a65c yJx4a65c_get_915e3 yJx4a65c_get_915e3, Cond.code yJx4a65c_get_915e3 cJx4a65c_get_915e3 2 (some (.object "java/lang/Object")), Cond.methodLink RJx4a65c 118 yJ15_checkIndex_7cf53, Cond.static yJ15_checkIndex_7cf53, Cond.initialized RJ15, Cond.code yJ15_checkIndex_7cf53 cJ15_checkIndex_7cf53 2 (some .int), Cond.methodLink RJ15 105 yJ3_checkIndex_8e157, Cond.static yJ3_checkIndex_8e157, Cond.initialized RJ3, Cond.code yJ3_checkIndex_8e157 cJ3_checkIndex_8e157 3 (some .int), Cond.methodLink RJx4a65c 123 yJx4a65c_elementData_915e3, Cond.instanceMethod yJx4a65c_elementData_915e3, Cond.selects RJx4a65c yJx4a65c_elementData_915e3 yJx4a65c_elementData_915e3, Cond.code yJx4a65c_elementData_915e3 cJx4a65c_elementData_915e3 2 (some (.object "java/lang/Object")), Cond.fieldLink RJx4a65c 9 "java/util/ArrayList" "elementData" "[Ljava/lang/Object;", Cond.methodLink RX1 83 yX0_isChanged, Cond.instanceMethod yX0_isChanged, Cond.selects RX0 yX0_isChanged yX0_isChanged, Cond.initialized RX0]
def wsX1_updateChanged_r3 : List Cond := [Cond.code yX0_isChanged cX0_isChanged 1 (some .boolean), Cond.fieldLink RX0 34 "ObjectMapper$Entity" "hasSnapshot" "Z", Cond.fieldLink RX0 19 "ObjectMapper$Entity" "name" "I", Cond.fieldLink RX0 37 "ObjectMapper$Entity" "snapshotName" "I", Cond.fieldLink RX0 9 "ObjectMapper$Entity" "reference" "I", Cond.fieldLink RX0 40 "ObjectMapper$Entity" "snapshotReference" "I", Cond.methodLink RX1 40 yX1_tableFor, Cond.instanceMethod yX1_tableFor, Cond.selects RX1 yX1_tableFor yX1_tableFor, Cond.initialized RX1, Cond.code yX1_tableFor cX1_tableFor 2 (some (.object "ObjectMapper$Table")), Cond.fieldLink RX1 15 "ObjectMapper$Flush" "authorTable" "LObjectMapper$Table;", Cond.fieldLink RX1 19 "ObjectMapper$Flush" "bookTable" "LObjectMapper$Table;", Cond.methodLink RX1 44 yX5_rowAt, Cond.instanceMethod yX5_rowAt, Cond.selects RX5 yX5_rowAt yX5_rowAt, Cond.initialized RX5, Cond.code yX5_rowAt cX5_rowAt 2 (some (.object "ObjectMapper$Row")), Cond.fieldLink RX5 10 "ObjectMapper$Table" "places" "Ljava/util/ArrayList;", Cond.fieldLink RX5 19 "ObjectMapper$Table" "noRow" "LObjectMapper$Row;", Cond.classLink RX5 16 "ObjectMapper$Row", Cond.methodLink RX5 23 yJx4a65c_size_8abf5, Cond.methodLink RX5 31 yJx4a65c_get_915e3, Cond.methodLink RX1 124 yX3_update]
def wsX1_updateChanged_r4 : List Cond := [Cond.instanceMethod yX3_update, Cond.selects RX3 yX3_update yX3_update, Cond.initialized RX3, Cond.code yX3_update cX3_update 3 none, Cond.fieldLink RX3 19 "ObjectMapper$Row" "name" "I", Cond.fieldLink RX3 9 "ObjectMapper$Row" "reference" "I", Cond.fieldLink RX3 22 "ObjectMapper$Row" "version" "I", Cond.methodLink RX1 114 yX2_note, Cond.instanceMethod yX2_note, Cond.selects RX2 yX2_note yX2_note, Cond.initialized RX2, Cond.code yX2_note cX2_note 4 none, Cond.fieldLink RX2 18 "ObjectMapper$Journal" "size" "I", Cond.fieldLink RX2 11 "ObjectMapper$Journal" "actions" "[I", Cond.fieldLink RX2 15 "ObjectMapper$Journal" "rowNumbers" "[I", Cond.methodLink RX2 22 yJ7_copyOf_59c91, Cond.static yJ7_copyOf_59c91, Cond.initialized RJ7, Cond.code yJ7_copyOf_59c91 cJ7_copyOf_59c91 3 (some (.array .int)), Cond.methodLink RJ7 316 ⟨"[I", "clone", "()Ljava/lang/Object;"⟩, Cond.sameMethod "[I" "java/lang/Object" "clone" "()Ljava/lang/Object;", Cond.native ⟨"java/lang/Object", "clone", "()Ljava/lang/Object;"⟩, Cond.instanceMethod ⟨"java/lang/Object", "clone", "()Ljava/lang/Object;"⟩, Cond.selects "[I" ⟨"[I", "clone", "()Ljava/lang/Object;"⟩ ⟨"java/lang/Object", "clone", "()Ljava/lang/Object;"⟩]
def wsX1_updateChanged_r5 : List Cond := [Cond.classLink RJ7 317 "[I", Cond.arrayClass .int, Cond.methodLink RJ7 304 Lib.Math.min.name, Cond.static Lib.Math.min.name, Cond.initialized "java/lang/Math", Cond.code Lib.Math.min.name Lib.Math.min.code 2 (some .int), Cond.methodLink RJ7 150 arraycopyName, Cond.native arraycopyName, Cond.static arraycopyName, Cond.initialized "java/lang/System", Cond.methodLink RX1 120 yX0_takeSnapshot, Cond.instanceMethod yX0_takeSnapshot, Cond.selects RX0 yX0_takeSnapshot yX0_takeSnapshot, Cond.code yX0_takeSnapshot cX0_takeSnapshot 2 none, Cond.fieldLink RX0 22 "ObjectMapper$Row" "name" "I", Cond.fieldLink RX0 25 "ObjectMapper$Row" "reference" "I", Cond.fieldLink RX0 43 "ObjectMapper$Row" "version" "I", Cond.fieldLink RX0 46 "ObjectMapper$Entity" "snapshotVersion" "I"]
def wsX1_updateChanged : List Cond := .code yX1_updateChanged cX1_updateChanged 5 none :: ((wsX1_updateChanged_r1 ++ (wsX1_updateChanged_r2 ++ (wsX1_updateChanged_r3 ++ (wsX1_updateChanged_r4 ++ wsX1_updateChanged_r5)))) ++ wsX10 ++ wsX00 ++ wsX40 ++ wsJx4a65c0 ++ wsX50 ++ wsX30 ++ wsX20)
def wsX1_deleteStruckOut_r1 : List Cond := [Cond.fieldLink RX1 9 "ObjectMapper$Flush" "session" "LObjectMapper$Session;", Cond.fieldLink RX1 74 "ObjectMapper$Entity" "struckOut" "Z", Cond.fieldLink RX1 78 "ObjectMapper$Row" "there" "Z", Cond.fieldLink RX1 22 "ObjectMapper$Flush" "journal" "LObjectMapper$Journal;", Cond.methodLink RX1 30 yX4_sizeOf, Cond.instanceMethod yX4_sizeOf, Cond.selects RX4 yX4_sizeOf yX4_sizeOf, Cond.initialized RX4, Cond.code yX4_sizeOf cX4_sizeOf 2 (some .int), Cond.methodLink RX4 28 yX4_listOf, Cond.instanceMethod yX4_listOf, Cond.selects RX4 yX4_listOf yX4_listOf, Cond.code yX4_listOf cX4_listOf 2 (some (.object "java/util/ArrayList")), Cond.fieldLink RX4 12 "ObjectMapper$Session" "authorPlaces" "Ljava/util/ArrayList;", Cond.fieldLink RX4 18 "ObjectMapper$Session" "bookPlaces" "Ljava/util/ArrayList;", Cond.methodLink RX4 32 yJx4a65c_size_8abf5, Cond.instanceMethod yJx4a65c_size_8abf5, Cond.selects RJx4a65c yJx4a65c_size_8abf5 yJx4a65c_size_8abf5, Cond.initialized RJx4a65c, Cond.code yJx4a65c_size_8abf5 cJx4a65c_size_8abf5 1 (some .int), Cond.fieldLink RJx4a65c 48 "java/util/ArrayList" "size" "I", Cond.methodLink RX1 36 yX4_entityAt, Cond.instanceMethod yX4_entityAt, Cond.selects RX4 yX4_entityAt yX4_entityAt]
def wsX1_deleteStruckOut_r2 : List Cond := [Cond.code yX4_entityAt cX4_entityAt 4 (some (.object "ObjectMapper$Entity")), Cond.fieldLink RX4 24 "ObjectMapper$Session" "nobody" "LObjectMapper$Entity;", Cond.classLink RX4 21 "ObjectMapper$Entity", Cond.methodLink RX4 40 yJx4a65c_get_915e3, Cond.instanceMethod yJx4a65c_get_915e3, Cond.selects RJx4a65c yJx4a65c_get_915e3 yJx4a65c_get_915e3, Cond.code yJx4a65c_get_915e3 cJx4a65c_get_915e3 2 (some (.object "java/lang/Object")), Cond.methodLink RJx4a65c 118 yJ15_checkIndex_7cf53, Cond.static yJ15_checkIndex_7cf53, Cond.initialized RJ15, Cond.code yJ15_checkIndex_7cf53 cJ15_checkIndex_7cf53 2 (some .int), Cond.methodLink RJ15 105 yJ3_checkIndex_8e157, Cond.static yJ3_checkIndex_8e157, Cond.initialized RJ3, Cond.code yJ3_checkIndex_8e157 cJ3_checkIndex_8e157 3 (some .int), Cond.methodLink RJx4a65c 123 yJx4a65c_elementData_915e3, Cond.instanceMethod yJx4a65c_elementData_915e3, Cond.selects RJx4a65c yJx4a65c_elementData_915e3 yJx4a65c_elementData_915e3, Cond.code yJx4a65c_elementData_915e3 cJx4a65c_elementData_915e3 2 (some (.object "java/lang/Object")), Cond.fieldLink RJx4a65c 9 "java/util/ArrayList" "elementData" "[Ljava/lang/Object;", Cond.methodLink RX1 40 yX1_tableFor, Cond.instanceMethod yX1_tableFor, Cond.selects RX1 yX1_tableFor yX1_tableFor, Cond.initialized RX1]
def wsX1_deleteStruckOut_r3 : List Cond := [Cond.code yX1_tableFor cX1_tableFor 2 (some (.object "ObjectMapper$Table")), Cond.fieldLink RX1 15 "ObjectMapper$Flush" "authorTable" "LObjectMapper$Table;", Cond.fieldLink RX1 19 "ObjectMapper$Flush" "bookTable" "LObjectMapper$Table;", Cond.methodLink RX1 44 yX5_rowAt, Cond.instanceMethod yX5_rowAt, Cond.selects RX5 yX5_rowAt yX5_rowAt, Cond.initialized RX5, Cond.code yX5_rowAt cX5_rowAt 2 (some (.object "ObjectMapper$Row")), Cond.fieldLink RX5 10 "ObjectMapper$Table" "places" "Ljava/util/ArrayList;", Cond.fieldLink RX5 19 "ObjectMapper$Table" "noRow" "LObjectMapper$Row;", Cond.classLink RX5 16 "ObjectMapper$Row", Cond.methodLink RX5 23 yJx4a65c_size_8abf5, Cond.methodLink RX5 31 yJx4a65c_get_915e3, Cond.methodLink RX1 114 yX2_note, Cond.instanceMethod yX2_note, Cond.selects RX2 yX2_note yX2_note, Cond.initialized RX2, Cond.code yX2_note cX2_note 4 none, Cond.fieldLink RX2 18 "ObjectMapper$Journal" "size" "I", Cond.fieldLink RX2 11 "ObjectMapper$Journal" "actions" "[I", Cond.fieldLink RX2 15 "ObjectMapper$Journal" "rowNumbers" "[I", Cond.methodLink RX2 22 yJ7_copyOf_59c91, Cond.static yJ7_copyOf_59c91, Cond.initialized RJ7]
def wsX1_deleteStruckOut_r4 : List Cond := [Cond.code yJ7_copyOf_59c91 cJ7_copyOf_59c91 3 (some (.array .int)), Cond.methodLink RJ7 316 ⟨"[I", "clone", "()Ljava/lang/Object;"⟩, Cond.sameMethod "[I" "java/lang/Object" "clone" "()Ljava/lang/Object;", Cond.native ⟨"java/lang/Object", "clone", "()Ljava/lang/Object;"⟩, Cond.instanceMethod ⟨"java/lang/Object", "clone", "()Ljava/lang/Object;"⟩, Cond.selects "[I" ⟨"[I", "clone", "()Ljava/lang/Object;"⟩ ⟨"java/lang/Object", "clone", "()Ljava/lang/Object;"⟩, Cond.classLink RJ7 317 "[I", Cond.arrayClass .int, Cond.methodLink RJ7 304 Lib.Math.min.name, Cond.static Lib.Math.min.name, Cond.initialized "java/lang/Math", Cond.code Lib.Math.min.name Lib.Math.min.code 2 (some .int), Cond.methodLink RJ7 150 arraycopyName, Cond.native arraycopyName, Cond.static arraycopyName, Cond.initialized "java/lang/System", Cond.methodLink RX1 127 yX0_forget, Cond.instanceMethod yX0_forget, Cond.selects RX0 yX0_forget yX0_forget, Cond.initialized RX0, Cond.code yX0_forget cX0_forget 1 none, Cond.fieldLink RX0 15 "ObjectMapper$Entity" "inSession" "Z", Cond.fieldLink RX0 49 "ObjectMapper$Entity" "struckOut" "Z", Cond.fieldLink RX0 34 "ObjectMapper$Entity" "hasSnapshot" "Z"]
def wsX1_deleteStruckOut : List Cond := .code yX1_deleteStruckOut cX1_deleteStruckOut 4 none :: ((wsX1_deleteStruckOut_r1 ++ (wsX1_deleteStruckOut_r2 ++ (wsX1_deleteStruckOut_r3 ++ wsX1_deleteStruckOut_r4))) ++ wsX10 ++ wsX00 ++ wsX30 ++ wsX40 ++ wsJx4a65c0 ++ wsX50 ++ wsX20)
def wsX1_doWrites_r1 : List Cond := [Cond.methodLink RX1 91 yX1_insertAuthors, Cond.instanceMethod yX1_insertAuthors, Cond.selects RX1 yX1_insertAuthors yX1_insertAuthors, Cond.initialized RX1, Cond.code yX1_insertAuthors cX1_insertAuthors 4 none, Cond.fieldLink RX1 9 "ObjectMapper$Flush" "session" "LObjectMapper$Session;", Cond.fieldLink RX1 19 "ObjectMapper$Flush" "bookTable" "LObjectMapper$Table;", Cond.fieldLink RX1 86 "ObjectMapper$Entity" "reference" "I", Cond.fieldLink RX1 78 "ObjectMapper$Row" "there" "Z", Cond.methodLink RX1 30 yX4_sizeOf, Cond.instanceMethod yX4_sizeOf, Cond.selects RX4 yX4_sizeOf yX4_sizeOf, Cond.initialized RX4, Cond.code yX4_sizeOf cX4_sizeOf 2 (some .int), Cond.methodLink RX4 28 yX4_listOf, Cond.instanceMethod yX4_listOf, Cond.selects RX4 yX4_listOf yX4_listOf, Cond.code yX4_listOf cX4_listOf 2 (some (.object "java/util/ArrayList")), Cond.fieldLink RX4 12 "ObjectMapper$Session" "authorPlaces" "Ljava/util/ArrayList;", Cond.fieldLink RX4 18 "ObjectMapper$Session" "bookPlaces" "Ljava/util/ArrayList;", Cond.methodLink RX4 32 yJx4a65c_size_8abf5, Cond.instanceMethod yJx4a65c_size_8abf5, Cond.selects RJx4a65c yJx4a65c_size_8abf5 yJx4a65c_size_8abf5, Cond.initialized RJx4a65c]
def wsX1_doWrites_r2 : List Cond := [Cond.code yJx4a65c_size_8abf5 cJx4a65c_size_8abf5 1 (some .int), Cond.fieldLink RJx4a65c 48 "java/util/ArrayList" "size" "I", Cond.methodLink RX1 36 yX4_entityAt, Cond.instanceMethod yX4_entityAt, Cond.selects RX4 yX4_entityAt yX4_entityAt, Cond.code yX4_entityAt cX4_entityAt 4 (some (.object "ObjectMapper$Entity")), Cond.fieldLink RX4 24 "ObjectMapper$Session" "nobody" "LObjectMapper$Entity;", Cond.classLink RX4 21 "ObjectMapper$Entity", Cond.methodLink RX4 40 yJx4a65c_get_915e3, Cond.instanceMethod yJx4a65c_get_915e3, Cond.selects RJx4a65c yJx4a65c_get_915e3 yJx4a65c_get_915e3, Cond.code yJx4a65c_get_915e3 cJx4a65c_get_915e3 2 (some (.object "java/lang/Object")), Cond.methodLink RJx4a65c 118 yJ15_checkIndex_7cf53, Cond.static yJ15_checkIndex_7cf53, Cond.initialized RJ15, Cond.code yJ15_checkIndex_7cf53 cJ15_checkIndex_7cf53 2 (some .int), Cond.methodLink RJ15 105 yJ3_checkIndex_8e157, Cond.static yJ3_checkIndex_8e157, Cond.initialized RJ3, Cond.code yJ3_checkIndex_8e157 cJ3_checkIndex_8e157 3 (some .int), Cond.methodLink RJx4a65c 123 yJx4a65c_elementData_915e3, Cond.instanceMethod yJx4a65c_elementData_915e3, Cond.selects RJx4a65c yJx4a65c_elementData_915e3 yJx4a65c_elementData_915e3, Cond.code yJx4a65c_elementData_915e3 cJx4a65c_elementData_915e3 2 (some (.object "java/lang/Object"))]
def wsX1_doWrites_r3 : List Cond := [Cond.fieldLink RJx4a65c 9 "java/util/ArrayList" "elementData" "[Ljava/lang/Object;", Cond.methodLink RX1 70 yX0_isNew, Cond.instanceMethod yX0_isNew, Cond.selects RX0 yX0_isNew yX0_isNew, Cond.initialized RX0, Cond.code yX0_isNew cX0_isNew 1 (some .boolean), Cond.fieldLink RX0 15 "ObjectMapper$Entity" "inSession" "Z", Cond.fieldLink RX0 34 "ObjectMapper$Entity" "hasSnapshot" "Z", Cond.methodLink RX1 44 yX5_rowAt, Cond.instanceMethod yX5_rowAt, Cond.selects RX5 yX5_rowAt yX5_rowAt, Cond.initialized RX5, Cond.code yX5_rowAt cX5_rowAt 2 (some (.object "ObjectMapper$Row")), Cond.fieldLink RX5 10 "ObjectMapper$Table" "places" "Ljava/util/ArrayList;", Cond.fieldLink RX5 19 "ObjectMapper$Table" "noRow" "LObjectMapper$Row;", Cond.classLink RX5 16 "ObjectMapper$Row", Cond.methodLink RX5 23 yJx4a65c_size_8abf5, Cond.methodLink RX5 31 yJx4a65c_get_915e3, Cond.methodLink RX1 104 yX1_insert, Cond.instanceMethod yX1_insert, Cond.selects RX1 yX1_insert yX1_insert, Cond.code yX1_insert cX1_insert 6 none, Cond.fieldLink RX1 108 "ObjectMapper$Entity" "name" "I", Cond.fieldLink RX1 22 "ObjectMapper$Flush" "journal" "LObjectMapper$Journal;"]
def wsX1_doWrites_r4 : List Cond := [Cond.methodLink RX1 40 yX1_tableFor, Cond.instanceMethod yX1_tableFor, Cond.selects RX1 yX1_tableFor yX1_tableFor, Cond.code yX1_tableFor cX1_tableFor 2 (some (.object "ObjectMapper$Table")), Cond.fieldLink RX1 15 "ObjectMapper$Flush" "authorTable" "LObjectMapper$Table;", Cond.methodLink RX1 111 yX3_insert, Cond.instanceMethod yX3_insert, Cond.selects RX3 yX3_insert yX3_insert, Cond.initialized RX3, Cond.code yX3_insert cX3_insert 3 none, Cond.fieldLink RX3 15 "ObjectMapper$Row" "there" "Z", Cond.fieldLink RX3 19 "ObjectMapper$Row" "name" "I", Cond.fieldLink RX3 9 "ObjectMapper$Row" "reference" "I", Cond.fieldLink RX3 22 "ObjectMapper$Row" "version" "I", Cond.methodLink RX1 114 yX2_note, Cond.instanceMethod yX2_note, Cond.selects RX2 yX2_note yX2_note, Cond.initialized RX2, Cond.code yX2_note cX2_note 4 none, Cond.fieldLink RX2 18 "ObjectMapper$Journal" "size" "I", Cond.fieldLink RX2 11 "ObjectMapper$Journal" "actions" "[I", Cond.fieldLink RX2 15 "ObjectMapper$Journal" "rowNumbers" "[I", Cond.methodLink RX2 22 yJ7_copyOf_59c91, Cond.static yJ7_copyOf_59c91]
def wsX1_doWrites_r5 : List Cond := [Cond.initialized RJ7, Cond.code yJ7_copyOf_59c91 cJ7_copyOf_59c91 3 (some (.array .int)), Cond.methodLink RJ7 316 ⟨"[I", "clone", "()Ljava/lang/Object;"⟩, Cond.sameMethod "[I" "java/lang/Object" "clone" "()Ljava/lang/Object;", Cond.native ⟨"java/lang/Object", "clone", "()Ljava/lang/Object;"⟩, Cond.instanceMethod ⟨"java/lang/Object", "clone", "()Ljava/lang/Object;"⟩, Cond.selects "[I" ⟨"[I", "clone", "()Ljava/lang/Object;"⟩ ⟨"java/lang/Object", "clone", "()Ljava/lang/Object;"⟩, Cond.classLink RJ7 317 "[I", Cond.arrayClass .int, Cond.methodLink RJ7 304 Lib.Math.min.name, Cond.static Lib.Math.min.name, Cond.initialized "java/lang/Math", Cond.code Lib.Math.min.name Lib.Math.min.code 2 (some .int), Cond.methodLink RJ7 150 arraycopyName, Cond.native arraycopyName, Cond.static arraycopyName, Cond.initialized "java/lang/System", Cond.methodLink RX1 120 yX0_takeSnapshot, Cond.instanceMethod yX0_takeSnapshot, Cond.selects RX0 yX0_takeSnapshot yX0_takeSnapshot, Cond.code yX0_takeSnapshot cX0_takeSnapshot 2 none, Cond.fieldLink RX0 22 "ObjectMapper$Row" "name" "I", Cond.fieldLink RX0 37 "ObjectMapper$Entity" "snapshotName" "I", Cond.fieldLink RX0 25 "ObjectMapper$Row" "reference" "I"]
def wsX1_doWrites_r6 : List Cond := [Cond.fieldLink RX0 40 "ObjectMapper$Entity" "snapshotReference" "I", Cond.fieldLink RX0 43 "ObjectMapper$Row" "version" "I", Cond.fieldLink RX0 46 "ObjectMapper$Entity" "snapshotVersion" "I", Cond.methodLink RX1 94 yX1_insertBooks, Cond.instanceMethod yX1_insertBooks, Cond.selects RX1 yX1_insertBooks yX1_insertBooks, Cond.code yX1_insertBooks cX1_insertBooks 3 none, Cond.methodLink RX1 97 yX1_updateChanged, Cond.instanceMethod yX1_updateChanged, Cond.selects RX1 yX1_updateChanged yX1_updateChanged, Cond.code yX1_updateChanged cX1_updateChanged 5 none, Cond.methodLink RX1 83 yX0_isChanged, Cond.instanceMethod yX0_isChanged, Cond.selects RX0 yX0_isChanged yX0_isChanged, Cond.code yX0_isChanged cX0_isChanged 1 (some .boolean), Cond.fieldLink RX0 19 "ObjectMapper$Entity" "name" "I", Cond.fieldLink RX0 9 "ObjectMapper$Entity" "reference" "I", Cond.methodLink RX1 124 yX3_update, Cond.instanceMethod yX3_update, Cond.selects RX3 yX3_update yX3_update, Cond.code yX3_update cX3_update 3 none, Cond.methodLink RX1 101 yX1_deleteStruckOut, Cond.instanceMethod yX1_deleteStruckOut, Cond.selects RX1 yX1_deleteStruckOut yX1_deleteStruckOut]
def wsX1_doWrites_r7 : List Cond := [Cond.code yX1_deleteStruckOut cX1_deleteStruckOut 4 none, Cond.fieldLink RX1 74 "ObjectMapper$Entity" "struckOut" "Z", Cond.methodLink RX1 127 yX0_forget, Cond.instanceMethod yX0_forget, Cond.selects RX0 yX0_forget yX0_forget, Cond.code yX0_forget cX0_forget 1 none, Cond.fieldLink RX0 49 "ObjectMapper$Entity" "struckOut" "Z"]
def wsX1_doWrites : List Cond := .code yX1_doWrites cX1_doWrites 1 none :: ((wsX1_doWrites_r1 ++ (wsX1_doWrites_r2 ++ (wsX1_doWrites_r3 ++ (wsX1_doWrites_r4 ++ (wsX1_doWrites_r5 ++ (wsX1_doWrites_r6 ++ wsX1_doWrites_r7)))))) ++ wsX10 ++ wsX00 ++ wsX30 ++ wsX40 ++ wsJx4a65c0 ++ wsX50 ++ wsX20)
def wsX2_init : List Cond := .code yX2_init cX2_init 1 none :: ([.methodLink RX2 3 objectInit, .instanceMethod objectInit, .code objectInit ⟨#[0xb1]⟩ 1 none, .arrayClass .int, .fieldLink RX2 11 "ObjectMapper$Journal" "actions" "[I", .fieldLink RX2 15 "ObjectMapper$Journal" "rowNumbers" "[I"] ++ wsX20)
def wsX2_isFull : List Cond := .code yX2_isFull cX2_isFull 1 (some .boolean) :: ([.fieldLink RX2 18 "ObjectMapper$Journal" "size" "I"] ++ wsX20)
def wsX2_actionAt : List Cond := .code yX2_actionAt cX2_actionAt 2 (some .int) :: ([.fieldLink RX2 11 "ObjectMapper$Journal" "actions" "[I"] ++ wsX20)
def wsX2_rowNumberAt : List Cond := .code yX2_rowNumberAt cX2_rowNumberAt 2 (some .int) :: ([.fieldLink RX2 15 "ObjectMapper$Journal" "rowNumbers" "[I"] ++ wsX20)
def wsX3_init : List Cond := .code yX3_init cX3_init 1 none :: ([.methodLink RX3 3 objectInit, .instanceMethod objectInit, .code objectInit ⟨#[0xb1]⟩ 1 none, .fieldLink RX3 9 "ObjectMapper$Row" "reference" "I"] ++ wsX30)
def wsJxa1e45_init_da8c8 : List Cond := .code yJxa1e45_init_da8c8 cJxa1e45_init_da8c8 1 none :: ([.methodLink RJxa1e45 1 objectInit, .instanceMethod objectInit, .code objectInit ⟨#[0xb1]⟩ 1 none])
def wsJxc12de_init_da8c8 : List Cond := .code yJxc12de_init_da8c8 cJxc12de_init_da8c8 1 none :: ([.fieldLink RJxc12de 7 "java/util/AbstractList" "modCount" "I", .methodLink RJxc12de 1 yJxa1e45_init_da8c8, .instanceMethod yJxa1e45_init_da8c8, .initialized RJxa1e45, .code yJxa1e45_init_da8c8 cJxa1e45_init_da8c8 1 none, .methodLink RJxa1e45 1 objectInit, .instanceMethod objectInit, .code objectInit ⟨#[0xb1]⟩ 1 none] ++ wsJx4a65c0)
def wsJx4a65c_init_da8c8 : List Cond := .code yJx4a65c_init_da8c8 cJx4a65c_init_da8c8 1 none :: ([.fieldLink RJx4a65c 39 "java/util/ArrayList" "DEFAULTCAPACITY_EMPTY_ELEMENTDATA" "[Ljava/lang/Object;", .fieldLink RJx4a65c 9 "java/util/ArrayList" "elementData" "[Ljava/lang/Object;", .methodLink RJx4a65c 1 yJxc12de_init_da8c8, .instanceMethod yJxc12de_init_da8c8, .initialized RJxc12de, .code yJxc12de_init_da8c8 cJxc12de_init_da8c8 1 none, .fieldLink RJxc12de 7 "java/util/AbstractList" "modCount" "I", .methodLink RJxc12de 1 yJxa1e45_init_da8c8, .instanceMethod yJxa1e45_init_da8c8, .initialized RJxa1e45, .code yJxa1e45_init_da8c8 cJxa1e45_init_da8c8 1 none, .methodLink RJxa1e45 1 objectInit, .instanceMethod objectInit, .code objectInit ⟨#[0xb1]⟩ 1 none] ++ wsJx4a65c0)
def wsX4_init_r1 : List Cond := [Cond.methodLink RX4 3 objectInit, Cond.instanceMethod objectInit, Cond.code objectInit ⟨#[0xb1]⟩ 1 none, Cond.classLink RX4 9 RJx4a65c, Cond.instantiable RJx4a65c 3, Cond.initialized RJx4a65c, Cond.fieldLink RX4 12 "ObjectMapper$Session" "authorPlaces" "Ljava/util/ArrayList;", Cond.fieldLink RX4 18 "ObjectMapper$Session" "bookPlaces" "Ljava/util/ArrayList;", Cond.classLink RX4 21 RX0, Cond.instantiable RX0 8, Cond.initialized RX0, Cond.fieldLink RX4 24 "ObjectMapper$Session" "nobody" "LObjectMapper$Entity;", Cond.methodLink RX4 11 yJx4a65c_init_da8c8, Cond.instanceMethod yJx4a65c_init_da8c8, Cond.code yJx4a65c_init_da8c8 cJx4a65c_init_da8c8 1 none, Cond.fieldLink RJx4a65c 39 "java/util/ArrayList" "DEFAULTCAPACITY_EMPTY_ELEMENTDATA" "[Ljava/lang/Object;", Cond.fieldLink RJx4a65c 9 "java/util/ArrayList" "elementData" "[Ljava/lang/Object;", Cond.methodLink RJx4a65c 1 yJxc12de_init_da8c8, Cond.instanceMethod yJxc12de_init_da8c8, Cond.initialized RJxc12de, Cond.code yJxc12de_init_da8c8 cJxc12de_init_da8c8 1 none, Cond.fieldLink RJxc12de 7 "java/util/AbstractList" "modCount" "I", Cond.methodLink RJxc12de 1 yJxa1e45_init_da8c8, Cond.instanceMethod yJxa1e45_init_da8c8]
def wsX4_init_r2 : List Cond := [Cond.initialized RJxa1e45, Cond.code yJxa1e45_init_da8c8 cJxa1e45_init_da8c8 1 none, Cond.methodLink RJxa1e45 1 objectInit, Cond.instanceMethod yX0_init, Cond.code yX0_init cX0_init 1 none, Cond.methodLink RX0 3 objectInit, Cond.fieldLink RX0 9 "ObjectMapper$Entity" "reference" "I"]
def wsX4_init : List Cond := .code yX4_init cX4_init 1 none :: ((wsX4_init_r1 ++ wsX4_init_r2) ++ wsJx4a65c0 ++ wsX40 ++ wsX00)
def wsJ8_hugeLength_7cf53 : List Cond := .code yJ8_hugeLength_7cf53 cJ8_hugeLength_7cf53 3 (some .int) :: ([.constant RJ8 200 (2147483639)])
def wsJ8_newLength_cabcc : List Cond := .code yJ8_newLength_cabcc cJ8_newLength_cabcc 4 (some .int) :: ([.methodLink RJ8 194 Lib.Math.max.name, .static Lib.Math.max.name, .initialized "java/lang/Math", .code Lib.Math.max.name Lib.Math.max.code 2 (some .int), .constant RJ8 200 (2147483639), .methodLink RJ8 201 yJ8_hugeLength_7cf53, .static yJ8_hugeLength_7cf53, .initialized RJ8, .code yJ8_hugeLength_7cf53 cJ8_hugeLength_7cf53 3 (some .int)])
def wsJ7_copyOf_6403c : List Cond := .code yJ7_copyOf_6403c cJ7_copyOf_6403c 4 (some (.array (.object "java/lang/Object"))) :: ([.classLink RJ7 110 "[Ljava/lang/Object;", .classLink RJ7 2 "java/lang/Object", .methodLink RJ7 304 Lib.Math.min.name, .static Lib.Math.min.name, .initialized "java/lang/Math", .code Lib.Math.min.name Lib.Math.min.code 2 (some .int), .methodLink RJ7 150 arraycopyName, .native arraycopyName, .static arraycopyName, .initialized "java/lang/System"])
def wsJ7_copyOf_1904c : List Cond := .code yJ7_copyOf_1904c cJ7_copyOf_1904c 2 (some (.array (.object "java/lang/Object"))) :: ([.methodLink RJ7 86 ⟨"java/lang/Object", "getClass", "()Ljava/lang/Class;"⟩, .selects "[Ljava/lang/Object;" ⟨"java/lang/Object", "getClass", "()Ljava/lang/Class;"⟩ ⟨"java/lang/Object", "getClass", "()Ljava/lang/Class;"⟩, .instanceMethod ⟨"java/lang/Object", "getClass", "()Ljava/lang/Class;"⟩, .native ⟨"java/lang/Object", "getClass", "()Ljava/lang/Class;"⟩, .methodLink RJ7 300 yJ7_copyOf_6403c, .static yJ7_copyOf_6403c, .initialized RJ7, .code yJ7_copyOf_6403c cJ7_copyOf_6403c 4 (some (.array (.object "java/lang/Object"))), .classLink RJ7 110 "[Ljava/lang/Object;", .classLink RJ7 2 "java/lang/Object", .methodLink RJ7 304 Lib.Math.min.name, .static Lib.Math.min.name, .initialized "java/lang/Math", .code Lib.Math.min.name Lib.Math.min.code 2 (some .int), .methodLink RJ7 150 arraycopyName, .native arraycopyName, .static arraycopyName, .initialized "java/lang/System"])
def wsJx4a65c_grow_92f84_r1 : List Cond := [Cond.fieldLink RJx4a65c 9 "java/util/ArrayList" "elementData" "[Ljava/lang/Object;", Cond.fieldLink RJx4a65c 39 "java/util/ArrayList" "DEFAULTCAPACITY_EMPTY_ELEMENTDATA" "[Ljava/lang/Object;", Cond.methodLink RJx4a65c 79 Lib.Math.max.name, Cond.static Lib.Math.max.name, Cond.initialized "java/lang/Math", Cond.code Lib.Math.max.name Lib.Math.max.code 2 (some .int), Cond.classLink RJx4a65c 7 "java/lang/Object", Cond.methodLink RJx4a65c 73 yJ8_newLength_cabcc, Cond.static yJ8_newLength_cabcc, Cond.initialized RJ8, Cond.code yJ8_newLength_cabcc cJ8_newLength_cabcc 4 (some .int), Cond.methodLink RJ8 194 Lib.Math.max.name, Cond.constant RJ8 200 (2147483639), Cond.methodLink RJ8 201 yJ8_hugeLength_7cf53, Cond.static yJ8_hugeLength_7cf53, Cond.code yJ8_hugeLength_7cf53 cJ8_hugeLength_7cf53 3 (some .int), Cond.methodLink RJx4a65c 66 yJ7_copyOf_1904c, Cond.static yJ7_copyOf_1904c, Cond.initialized RJ7, Cond.code yJ7_copyOf_1904c cJ7_copyOf_1904c 2 (some (.array (.object "java/lang/Object"))), Cond.methodLink RJ7 86 ⟨"java/lang/Object", "getClass", "()Ljava/lang/Class;"⟩, Cond.selects "[Ljava/lang/Object;" ⟨"java/lang/Object", "getClass", "()Ljava/lang/Class;"⟩ ⟨"java/lang/Object", "getClass", "()Ljava/lang/Class;"⟩, Cond.instanceMethod ⟨"java/lang/Object", "getClass", "()Ljava/lang/Class;"⟩, Cond.native ⟨"java/lang/Object", "getClass", "()Ljava/lang/Class;"⟩]
def wsJx4a65c_grow_92f84_r2 : List Cond := [Cond.methodLink RJ7 300 yJ7_copyOf_6403c, Cond.static yJ7_copyOf_6403c, Cond.code yJ7_copyOf_6403c cJ7_copyOf_6403c 4 (some (.array (.object "java/lang/Object"))), Cond.classLink RJ7 110 "[Ljava/lang/Object;", Cond.classLink RJ7 2 "java/lang/Object", Cond.methodLink RJ7 304 Lib.Math.min.name, Cond.static Lib.Math.min.name, Cond.code Lib.Math.min.name Lib.Math.min.code 2 (some .int), Cond.methodLink RJ7 150 arraycopyName, Cond.native arraycopyName, Cond.static arraycopyName, Cond.initialized "java/lang/System"]
def wsJx4a65c_grow_92f84 : List Cond := .code yJx4a65c_grow_92f84 cJx4a65c_grow_92f84 4 (some (.array (.object "java/lang/Object"))) :: ((wsJx4a65c_grow_92f84_r1 ++ wsJx4a65c_grow_92f84_r2) ++ wsJx4a65c0)
def wsJx4a65c_grow_d5877_r1 : List Cond := [Cond.fieldLink RJx4a65c 48 "java/util/ArrayList" "size" "I", Cond.methodLink RJx4a65c 69 yJx4a65c_grow_92f84, Cond.instanceMethod yJx4a65c_grow_92f84, Cond.selects RJx4a65c yJx4a65c_grow_92f84 yJx4a65c_grow_92f84, Cond.initialized RJx4a65c, Cond.code yJx4a65c_grow_92f84 cJx4a65c_grow_92f84 4 (some (.array (.object "java/lang/Object"))), Cond.fieldLink RJx4a65c 9 "java/util/ArrayList" "elementData" "[Ljava/lang/Object;", Cond.fieldLink RJx4a65c 39 "java/util/ArrayList" "DEFAULTCAPACITY_EMPTY_ELEMENTDATA" "[Ljava/lang/Object;", Cond.methodLink RJx4a65c 79 Lib.Math.max.name, Cond.static Lib.Math.max.name, Cond.initialized "java/lang/Math", Cond.code Lib.Math.max.name Lib.Math.max.code 2 (some .int), Cond.classLink RJx4a65c 7 "java/lang/Object", Cond.methodLink RJx4a65c 73 yJ8_newLength_cabcc, Cond.static yJ8_newLength_cabcc, Cond.initialized RJ8, Cond.code yJ8_newLength_cabcc cJ8_newLength_cabcc 4 (some .int), Cond.methodLink RJ8 194 Lib.Math.max.name, Cond.constant RJ8 200 (2147483639), Cond.methodLink RJ8 201 yJ8_hugeLength_7cf53, Cond.static yJ8_hugeLength_7cf53, Cond.code yJ8_hugeLength_7cf53 cJ8_hugeLength_7cf53 3 (some .int), Cond.methodLink RJx4a65c 66 yJ7_copyOf_1904c, Cond.static yJ7_copyOf_1904c]
def wsJx4a65c_grow_d5877_r2 : List Cond := [Cond.initialized RJ7, Cond.code yJ7_copyOf_1904c cJ7_copyOf_1904c 2 (some (.array (.object "java/lang/Object"))), Cond.methodLink RJ7 86 ⟨"java/lang/Object", "getClass", "()Ljava/lang/Class;"⟩, Cond.selects "[Ljava/lang/Object;" ⟨"java/lang/Object", "getClass", "()Ljava/lang/Class;"⟩ ⟨"java/lang/Object", "getClass", "()Ljava/lang/Class;"⟩, Cond.instanceMethod ⟨"java/lang/Object", "getClass", "()Ljava/lang/Class;"⟩, Cond.native ⟨"java/lang/Object", "getClass", "()Ljava/lang/Class;"⟩, Cond.methodLink RJ7 300 yJ7_copyOf_6403c, Cond.static yJ7_copyOf_6403c, Cond.code yJ7_copyOf_6403c cJ7_copyOf_6403c 4 (some (.array (.object "java/lang/Object"))), Cond.classLink RJ7 110 "[Ljava/lang/Object;", Cond.classLink RJ7 2 "java/lang/Object", Cond.methodLink RJ7 304 Lib.Math.min.name, Cond.static Lib.Math.min.name, Cond.code Lib.Math.min.name Lib.Math.min.code 2 (some .int), Cond.methodLink RJ7 150 arraycopyName, Cond.native arraycopyName, Cond.static arraycopyName, Cond.initialized "java/lang/System"]
def wsJx4a65c_grow_d5877 : List Cond := .code yJx4a65c_grow_d5877 cJx4a65c_grow_d5877 1 (some (.array (.object "java/lang/Object"))) :: ((wsJx4a65c_grow_d5877_r1 ++ wsJx4a65c_grow_d5877_r2) ++ wsJx4a65c0)
def wsJx4a65c_add_72be8_r1 : List Cond := [Cond.fieldLink RJx4a65c 48 "java/util/ArrayList" "size" "I", Cond.methodLink RJx4a65c 129 yJx4a65c_grow_d5877, Cond.instanceMethod yJx4a65c_grow_d5877, Cond.selects RJx4a65c yJx4a65c_grow_d5877 yJx4a65c_grow_d5877, Cond.initialized RJx4a65c, Cond.code yJx4a65c_grow_d5877 cJx4a65c_grow_d5877 1 (some (.array (.object "java/lang/Object"))), Cond.methodLink RJx4a65c 69 yJx4a65c_grow_92f84, Cond.instanceMethod yJx4a65c_grow_92f84, Cond.selects RJx4a65c yJx4a65c_grow_92f84 yJx4a65c_grow_92f84, Cond.code yJx4a65c_grow_92f84 cJx4a65c_grow_92f84 4 (some (.array (.object "java/lang/Object"))), Cond.fieldLink RJx4a65c 9 "java/util/ArrayList" "elementData" "[Ljava/lang/Object;", Cond.fieldLink RJx4a65c 39 "java/util/ArrayList" "DEFAULTCAPACITY_EMPTY_ELEMENTDATA" "[Ljava/lang/Object;", Cond.methodLink RJx4a65c 79 Lib.Math.max.name, Cond.static Lib.Math.max.name, Cond.initialized "java/lang/Math", Cond.code Lib.Math.max.name Lib.Math.max.code 2 (some .int), Cond.classLink RJx4a65c 7 "java/lang/Object", Cond.methodLink RJx4a65c 73 yJ8_newLength_cabcc, Cond.static yJ8_newLength_cabcc, Cond.initialized RJ8, Cond.code yJ8_newLength_cabcc cJ8_newLength_cabcc 4 (some .int), Cond.methodLink RJ8 194 Lib.Math.max.name, Cond.constant RJ8 200 (2147483639), Cond.methodLink RJ8 201 yJ8_hugeLength_7cf53]
def wsJx4a65c_add_72be8_r2 : List Cond := [Cond.static yJ8_hugeLength_7cf53, Cond.code yJ8_hugeLength_7cf53 cJ8_hugeLength_7cf53 3 (some .int), Cond.methodLink RJx4a65c 66 yJ7_copyOf_1904c, Cond.static yJ7_copyOf_1904c, Cond.initialized RJ7, Cond.code yJ7_copyOf_1904c cJ7_copyOf_1904c 2 (some (.array (.object "java/lang/Object"))), Cond.methodLink RJ7 86 ⟨"java/lang/Object", "getClass", "()Ljava/lang/Class;"⟩, Cond.selects "[Ljava/lang/Object;" ⟨"java/lang/Object", "getClass", "()Ljava/lang/Class;"⟩ ⟨"java/lang/Object", "getClass", "()Ljava/lang/Class;"⟩, Cond.instanceMethod ⟨"java/lang/Object", "getClass", "()Ljava/lang/Class;"⟩, Cond.native ⟨"java/lang/Object", "getClass", "()Ljava/lang/Class;"⟩, Cond.methodLink RJ7 300 yJ7_copyOf_6403c, Cond.static yJ7_copyOf_6403c, Cond.code yJ7_copyOf_6403c cJ7_copyOf_6403c 4 (some (.array (.object "java/lang/Object"))), Cond.classLink RJ7 110 "[Ljava/lang/Object;", Cond.classLink RJ7 2 "java/lang/Object", Cond.methodLink RJ7 304 Lib.Math.min.name, Cond.static Lib.Math.min.name, Cond.code Lib.Math.min.name Lib.Math.min.code 2 (some .int), Cond.methodLink RJ7 150 arraycopyName, Cond.native arraycopyName, Cond.static arraycopyName, Cond.initialized "java/lang/System"]
def wsJx4a65c_add_72be8 : List Cond := .code yJx4a65c_add_72be8 cJx4a65c_add_72be8 4 none :: ((wsJx4a65c_add_72be8_r1 ++ wsJx4a65c_add_72be8_r2) ++ wsJx4a65c0)
def wsJx4a65c_add_9ea2d_r1 : List Cond := [Cond.fieldLink RJx4a65c 63 "java/util/ArrayList" "modCount" "I", Cond.sameField "java/util/ArrayList" "java/util/AbstractList" "modCount" "I", Cond.fieldLink RJx4a65c 9 "java/util/ArrayList" "elementData" "[Ljava/lang/Object;", Cond.fieldLink RJx4a65c 48 "java/util/ArrayList" "size" "I", Cond.methodLink RJx4a65c 131 yJx4a65c_add_72be8, Cond.instanceMethod yJx4a65c_add_72be8, Cond.selects RJx4a65c yJx4a65c_add_72be8 yJx4a65c_add_72be8, Cond.initialized RJx4a65c, Cond.code yJx4a65c_add_72be8 cJx4a65c_add_72be8 4 none, Cond.methodLink RJx4a65c 129 yJx4a65c_grow_d5877, Cond.instanceMethod yJx4a65c_grow_d5877, Cond.selects RJx4a65c yJx4a65c_grow_d5877 yJx4a65c_grow_d5877, Cond.code yJx4a65c_grow_d5877 cJx4a65c_grow_d5877 1 (some (.array (.object "java/lang/Object"))), Cond.methodLink RJx4a65c 69 yJx4a65c_grow_92f84, Cond.instanceMethod yJx4a65c_grow_92f84, Cond.selects RJx4a65c yJx4a65c_grow_92f84 yJx4a65c_grow_92f84, Cond.code yJx4a65c_grow_92f84 cJx4a65c_grow_92f84 4 (some (.array (.object "java/lang/Object"))), Cond.fieldLink RJx4a65c 39 "java/util/ArrayList" "DEFAULTCAPACITY_EMPTY_ELEMENTDATA" "[Ljava/lang/Object;", Cond.methodLink RJx4a65c 79 Lib.Math.max.name, Cond.static Lib.Math.max.name, Cond.initialized "java/lang/Math", Cond.code Lib.Math.max.name Lib.Math.max.code 2 (some .int), Cond.classLink RJx4a65c 7 "java/lang/Object", Cond.methodLink RJx4a65c 73 yJ8_newLength_cabcc]
def wsJx4a65c_add_9ea2d_r2 : List Cond := [Cond.static yJ8_newLength_cabcc, Cond.initialized RJ8, Cond.code yJ8_newLength_cabcc cJ8_newLength_cabcc 4 (some .int), Cond.methodLink RJ8 194 Lib.Math.max.name, Cond.constant RJ8 200 (2147483639), Cond.methodLink RJ8 201 yJ8_hugeLength_7cf53, Cond.static yJ8_hugeLength_7cf53, Cond.code yJ8_hugeLength_7cf53 cJ8_hugeLength_7cf53 3 (some .int), Cond.methodLink RJx4a65c 66 yJ7_copyOf_1904c, Cond.static yJ7_copyOf_1904c, Cond.initialized RJ7, Cond.code yJ7_copyOf_1904c cJ7_copyOf_1904c 2 (some (.array (.object "java/lang/Object"))), Cond.methodLink RJ7 86 ⟨"java/lang/Object", "getClass", "()Ljava/lang/Class;"⟩, Cond.selects "[Ljava/lang/Object;" ⟨"java/lang/Object", "getClass", "()Ljava/lang/Class;"⟩ ⟨"java/lang/Object", "getClass", "()Ljava/lang/Class;"⟩, Cond.instanceMethod ⟨"java/lang/Object", "getClass", "()Ljava/lang/Class;"⟩, Cond.native ⟨"java/lang/Object", "getClass", "()Ljava/lang/Class;"⟩, Cond.methodLink RJ7 300 yJ7_copyOf_6403c, Cond.static yJ7_copyOf_6403c, Cond.code yJ7_copyOf_6403c cJ7_copyOf_6403c 4 (some (.array (.object "java/lang/Object"))), Cond.classLink RJ7 110 "[Ljava/lang/Object;", Cond.classLink RJ7 2 "java/lang/Object", Cond.methodLink RJ7 304 Lib.Math.min.name, Cond.static Lib.Math.min.name, Cond.code Lib.Math.min.name Lib.Math.min.code 2 (some .int)]
def wsJx4a65c_add_9ea2d_r3 : List Cond := [Cond.methodLink RJ7 150 arraycopyName, Cond.native arraycopyName, Cond.static arraycopyName, Cond.initialized "java/lang/System"]
def wsJx4a65c_add_9ea2d : List Cond := .code yJx4a65c_add_9ea2d cJx4a65c_add_9ea2d 2 (some .boolean) :: ((wsJx4a65c_add_9ea2d_r1 ++ (wsJx4a65c_add_9ea2d_r2 ++ wsJx4a65c_add_9ea2d_r3)) ++ wsJx4a65c0)
def wsX4_addPlace_r1 : List Cond := [Cond.classLink RX4 21 RX0, Cond.instantiable RX0 8, Cond.initialized RX0, Cond.methodLink RX4 28 yX4_listOf, Cond.instanceMethod yX4_listOf, Cond.selects RX4 yX4_listOf yX4_listOf, Cond.initialized RX4, Cond.code yX4_listOf cX4_listOf 2 (some (.object "java/util/ArrayList")), Cond.fieldLink RX4 12 "ObjectMapper$Session" "authorPlaces" "Ljava/util/ArrayList;", Cond.fieldLink RX4 18 "ObjectMapper$Session" "bookPlaces" "Ljava/util/ArrayList;", Cond.instanceMethod yX0_init, Cond.code yX0_init cX0_init 1 none, Cond.methodLink RX0 3 objectInit, Cond.instanceMethod objectInit, Cond.code objectInit ⟨#[0xb1]⟩ 1 none, Cond.fieldLink RX0 9 "ObjectMapper$Entity" "reference" "I", Cond.methodLink RX4 36 yJx4a65c_add_9ea2d, Cond.instanceMethod yJx4a65c_add_9ea2d, Cond.selects RJx4a65c yJx4a65c_add_9ea2d yJx4a65c_add_9ea2d, Cond.initialized RJx4a65c, Cond.code yJx4a65c_add_9ea2d cJx4a65c_add_9ea2d 2 (some .boolean), Cond.fieldLink RJx4a65c 63 "java/util/ArrayList" "modCount" "I", Cond.sameField "java/util/ArrayList" "java/util/AbstractList" "modCount" "I", Cond.fieldLink RJx4a65c 9 "java/util/ArrayList" "elementData" "[Ljava/lang/Object;"]
def wsX4_addPlace_r2 : List Cond := [Cond.fieldLink RJx4a65c 48 "java/util/ArrayList" "size" "I", Cond.methodLink RJx4a65c 131 yJx4a65c_add_72be8, Cond.instanceMethod yJx4a65c_add_72be8, Cond.selects RJx4a65c yJx4a65c_add_72be8 yJx4a65c_add_72be8, Cond.code yJx4a65c_add_72be8 cJx4a65c_add_72be8 4 none, Cond.methodLink RJx4a65c 129 yJx4a65c_grow_d5877, Cond.instanceMethod yJx4a65c_grow_d5877, Cond.selects RJx4a65c yJx4a65c_grow_d5877 yJx4a65c_grow_d5877, Cond.code yJx4a65c_grow_d5877 cJx4a65c_grow_d5877 1 (some (.array (.object "java/lang/Object"))), Cond.methodLink RJx4a65c 69 yJx4a65c_grow_92f84, Cond.instanceMethod yJx4a65c_grow_92f84, Cond.selects RJx4a65c yJx4a65c_grow_92f84 yJx4a65c_grow_92f84, Cond.code yJx4a65c_grow_92f84 cJx4a65c_grow_92f84 4 (some (.array (.object "java/lang/Object"))), Cond.fieldLink RJx4a65c 39 "java/util/ArrayList" "DEFAULTCAPACITY_EMPTY_ELEMENTDATA" "[Ljava/lang/Object;", Cond.methodLink RJx4a65c 79 Lib.Math.max.name, Cond.static Lib.Math.max.name, Cond.initialized "java/lang/Math", Cond.code Lib.Math.max.name Lib.Math.max.code 2 (some .int), Cond.classLink RJx4a65c 7 "java/lang/Object", Cond.methodLink RJx4a65c 73 yJ8_newLength_cabcc, Cond.static yJ8_newLength_cabcc, Cond.initialized RJ8, Cond.code yJ8_newLength_cabcc cJ8_newLength_cabcc 4 (some .int), Cond.methodLink RJ8 194 Lib.Math.max.name]
def wsX4_addPlace_r3 : List Cond := [Cond.constant RJ8 200 (2147483639), Cond.methodLink RJ8 201 yJ8_hugeLength_7cf53, Cond.static yJ8_hugeLength_7cf53, Cond.code yJ8_hugeLength_7cf53 cJ8_hugeLength_7cf53 3 (some .int), Cond.methodLink RJx4a65c 66 yJ7_copyOf_1904c, Cond.static yJ7_copyOf_1904c, Cond.initialized RJ7, Cond.code yJ7_copyOf_1904c cJ7_copyOf_1904c 2 (some (.array (.object "java/lang/Object"))), Cond.methodLink RJ7 86 ⟨"java/lang/Object", "getClass", "()Ljava/lang/Class;"⟩, Cond.selects "[Ljava/lang/Object;" ⟨"java/lang/Object", "getClass", "()Ljava/lang/Class;"⟩ ⟨"java/lang/Object", "getClass", "()Ljava/lang/Class;"⟩, Cond.instanceMethod ⟨"java/lang/Object", "getClass", "()Ljava/lang/Class;"⟩, Cond.native ⟨"java/lang/Object", "getClass", "()Ljava/lang/Class;"⟩, Cond.methodLink RJ7 300 yJ7_copyOf_6403c, Cond.static yJ7_copyOf_6403c, Cond.code yJ7_copyOf_6403c cJ7_copyOf_6403c 4 (some (.array (.object "java/lang/Object"))), Cond.classLink RJ7 110 "[Ljava/lang/Object;", Cond.classLink RJ7 2 "java/lang/Object", Cond.methodLink RJ7 304 Lib.Math.min.name, Cond.static Lib.Math.min.name, Cond.code Lib.Math.min.name Lib.Math.min.code 2 (some .int), Cond.methodLink RJ7 150 arraycopyName, Cond.native arraycopyName, Cond.static arraycopyName, Cond.initialized "java/lang/System"]
def wsX4_addPlace : List Cond := .code yX4_addPlace cX4_addPlace 2 none :: ((wsX4_addPlace_r1 ++ (wsX4_addPlace_r2 ++ wsX4_addPlace_r3)) ++ wsX00 ++ wsX40 ++ wsJx4a65c0)
def wsX4_countLive_r1 : List Cond := [Cond.methodLink RX4 44 yX4_sizeOf, Cond.instanceMethod yX4_sizeOf, Cond.selects RX4 yX4_sizeOf yX4_sizeOf, Cond.initialized RX4, Cond.code yX4_sizeOf cX4_sizeOf 2 (some .int), Cond.methodLink RX4 28 yX4_listOf, Cond.instanceMethod yX4_listOf, Cond.selects RX4 yX4_listOf yX4_listOf, Cond.code yX4_listOf cX4_listOf 2 (some (.object "java/util/ArrayList")), Cond.fieldLink RX4 12 "ObjectMapper$Session" "authorPlaces" "Ljava/util/ArrayList;", Cond.fieldLink RX4 18 "ObjectMapper$Session" "bookPlaces" "Ljava/util/ArrayList;", Cond.methodLink RX4 32 yJx4a65c_size_8abf5, Cond.instanceMethod yJx4a65c_size_8abf5, Cond.selects RJx4a65c yJx4a65c_size_8abf5 yJx4a65c_size_8abf5, Cond.initialized RJx4a65c, Cond.code yJx4a65c_size_8abf5 cJx4a65c_size_8abf5 1 (some .int), Cond.fieldLink RJx4a65c 48 "java/util/ArrayList" "size" "I", Cond.methodLink RX4 48 yX4_entityAt, Cond.instanceMethod yX4_entityAt, Cond.selects RX4 yX4_entityAt yX4_entityAt, Cond.code yX4_entityAt cX4_entityAt 4 (some (.object "ObjectMapper$Entity")), Cond.fieldLink RX4 24 "ObjectMapper$Session" "nobody" "LObjectMapper$Entity;", Cond.classLink RX4 21 "ObjectMapper$Entity", Cond.methodLink RX4 40 yJx4a65c_get_915e3]
def wsX4_countLive_r2 : List Cond := [Cond.instanceMethod yJx4a65c_get_915e3, Cond.selects RJx4a65c yJx4a65c_get_915e3 yJx4a65c_get_915e3, Cond.code yJx4a65c_get_915e3 cJx4a65c_get_915e3 2 (some (.object "java/lang/Object")), Cond.methodLink RJx4a65c 118 yJ15_checkIndex_7cf53, Cond.static yJ15_checkIndex_7cf53, Cond.initialized RJ15, Cond.code yJ15_checkIndex_7cf53 cJ15_checkIndex_7cf53 2 (some .int), Cond.methodLink RJ15 105 yJ3_checkIndex_8e157, Cond.static yJ3_checkIndex_8e157, Cond.initialized RJ3, Cond.code yJ3_checkIndex_8e157 cJ3_checkIndex_8e157 3 (some .int), Cond.methodLink RJx4a65c 123 yJx4a65c_elementData_915e3, Cond.instanceMethod yJx4a65c_elementData_915e3, Cond.selects RJx4a65c yJx4a65c_elementData_915e3 yJx4a65c_elementData_915e3, Cond.code yJx4a65c_elementData_915e3 cJx4a65c_elementData_915e3 2 (some (.object "java/lang/Object")), Cond.fieldLink RJx4a65c 9 "java/util/ArrayList" "elementData" "[Ljava/lang/Object;", Cond.methodLink RX4 52 yX0_isLive, Cond.instanceMethod yX0_isLive, Cond.selects RX0 yX0_isLive yX0_isLive, Cond.initialized RX0, Cond.code yX0_isLive cX0_isLive 1 (some .boolean), Cond.fieldLink RX0 15 "ObjectMapper$Entity" "inSession" "Z", Cond.fieldLink RX0 49 "ObjectMapper$Entity" "struckOut" "Z"]
def wsX4_countLive : List Cond := .code yX4_countLive cX4_countLive 4 (some .int) :: ((wsX4_countLive_r1 ++ wsX4_countLive_r2) ++ wsX40 ++ wsJx4a65c0 ++ wsX00)
def wsX4_countLiveAndDirty_r1 : List Cond := [Cond.methodLink RX4 44 yX4_sizeOf, Cond.instanceMethod yX4_sizeOf, Cond.selects RX4 yX4_sizeOf yX4_sizeOf, Cond.initialized RX4, Cond.code yX4_sizeOf cX4_sizeOf 2 (some .int), Cond.methodLink RX4 28 yX4_listOf, Cond.instanceMethod yX4_listOf, Cond.selects RX4 yX4_listOf yX4_listOf, Cond.code yX4_listOf cX4_listOf 2 (some (.object "java/util/ArrayList")), Cond.fieldLink RX4 12 "ObjectMapper$Session" "authorPlaces" "Ljava/util/ArrayList;", Cond.fieldLink RX4 18 "ObjectMapper$Session" "bookPlaces" "Ljava/util/ArrayList;", Cond.methodLink RX4 32 yJx4a65c_size_8abf5, Cond.instanceMethod yJx4a65c_size_8abf5, Cond.selects RJx4a65c yJx4a65c_size_8abf5 yJx4a65c_size_8abf5, Cond.initialized RJx4a65c, Cond.code yJx4a65c_size_8abf5 cJx4a65c_size_8abf5 1 (some .int), Cond.fieldLink RJx4a65c 48 "java/util/ArrayList" "size" "I", Cond.methodLink RX4 48 yX4_entityAt, Cond.instanceMethod yX4_entityAt, Cond.selects RX4 yX4_entityAt yX4_entityAt, Cond.code yX4_entityAt cX4_entityAt 4 (some (.object "ObjectMapper$Entity")), Cond.fieldLink RX4 24 "ObjectMapper$Session" "nobody" "LObjectMapper$Entity;", Cond.classLink RX4 21 "ObjectMapper$Entity", Cond.methodLink RX4 40 yJx4a65c_get_915e3]
def wsX4_countLiveAndDirty_r2 : List Cond := [Cond.instanceMethod yJx4a65c_get_915e3, Cond.selects RJx4a65c yJx4a65c_get_915e3 yJx4a65c_get_915e3, Cond.code yJx4a65c_get_915e3 cJx4a65c_get_915e3 2 (some (.object "java/lang/Object")), Cond.methodLink RJx4a65c 118 yJ15_checkIndex_7cf53, Cond.static yJ15_checkIndex_7cf53, Cond.initialized RJ15, Cond.code yJ15_checkIndex_7cf53 cJ15_checkIndex_7cf53 2 (some .int), Cond.methodLink RJ15 105 yJ3_checkIndex_8e157, Cond.static yJ3_checkIndex_8e157, Cond.initialized RJ3, Cond.code yJ3_checkIndex_8e157 cJ3_checkIndex_8e157 3 (some .int), Cond.methodLink RJx4a65c 123 yJx4a65c_elementData_915e3, Cond.instanceMethod yJx4a65c_elementData_915e3, Cond.selects RJx4a65c yJx4a65c_elementData_915e3 yJx4a65c_elementData_915e3, Cond.code yJx4a65c_elementData_915e3 cJx4a65c_elementData_915e3 2 (some (.object "java/lang/Object")), Cond.fieldLink RJx4a65c 9 "java/util/ArrayList" "elementData" "[Ljava/lang/Object;", Cond.methodLink RX4 52 yX0_isLive, Cond.instanceMethod yX0_isLive, Cond.selects RX0 yX0_isLive yX0_isLive, Cond.initialized RX0, Cond.code yX0_isLive cX0_isLive 1 (some .boolean), Cond.fieldLink RX0 15 "ObjectMapper$Entity" "inSession" "Z", Cond.fieldLink RX0 49 "ObjectMapper$Entity" "struckOut" "Z", Cond.methodLink RX4 56 yX0_isChanged]
def wsX4_countLiveAndDirty_r3 : List Cond := [Cond.instanceMethod yX0_isChanged, Cond.selects RX0 yX0_isChanged yX0_isChanged, Cond.code yX0_isChanged cX0_isChanged 1 (some .boolean), Cond.fieldLink RX0 34 "ObjectMapper$Entity" "hasSnapshot" "Z", Cond.fieldLink RX0 19 "ObjectMapper$Entity" "name" "I", Cond.fieldLink RX0 37 "ObjectMapper$Entity" "snapshotName" "I", Cond.fieldLink RX0 9 "ObjectMapper$Entity" "reference" "I", Cond.fieldLink RX0 40 "ObjectMapper$Entity" "snapshotReference" "I"]
def wsX4_countLiveAndDirty : List Cond := .code yX4_countLiveAndDirty cX4_countLiveAndDirty 5 (some .int) :: ((wsX4_countLiveAndDirty_r1 ++ (wsX4_countLiveAndDirty_r2 ++ wsX4_countLiveAndDirty_r3)) ++ wsX40 ++ wsJx4a65c0 ++ wsX00)
def wsX4_forgetAll_r1 : List Cond := [Cond.methodLink RX4 44 yX4_sizeOf, Cond.instanceMethod yX4_sizeOf, Cond.selects RX4 yX4_sizeOf yX4_sizeOf, Cond.initialized RX4, Cond.code yX4_sizeOf cX4_sizeOf 2 (some .int), Cond.methodLink RX4 28 yX4_listOf, Cond.instanceMethod yX4_listOf, Cond.selects RX4 yX4_listOf yX4_listOf, Cond.code yX4_listOf cX4_listOf 2 (some (.object "java/util/ArrayList")), Cond.fieldLink RX4 12 "ObjectMapper$Session" "authorPlaces" "Ljava/util/ArrayList;", Cond.fieldLink RX4 18 "ObjectMapper$Session" "bookPlaces" "Ljava/util/ArrayList;", Cond.methodLink RX4 32 yJx4a65c_size_8abf5, Cond.instanceMethod yJx4a65c_size_8abf5, Cond.selects RJx4a65c yJx4a65c_size_8abf5 yJx4a65c_size_8abf5, Cond.initialized RJx4a65c, Cond.code yJx4a65c_size_8abf5 cJx4a65c_size_8abf5 1 (some .int), Cond.fieldLink RJx4a65c 48 "java/util/ArrayList" "size" "I", Cond.methodLink RX4 48 yX4_entityAt, Cond.instanceMethod yX4_entityAt, Cond.selects RX4 yX4_entityAt yX4_entityAt, Cond.code yX4_entityAt cX4_entityAt 4 (some (.object "ObjectMapper$Entity")), Cond.fieldLink RX4 24 "ObjectMapper$Session" "nobody" "LObjectMapper$Entity;", Cond.classLink RX4 21 "ObjectMapper$Entity", Cond.methodLink RX4 40 yJx4a65c_get_915e3]
def wsX4_forgetAll_r2 : List Cond := [Cond.instanceMethod yJx4a65c_get_915e3, Cond.selects RJx4a65c yJx4a65c_get_915e3 yJx4a65c_get_915e3, Cond.code yJx4a65c_get_915e3 cJx4a65c_get_915e3 2 (some (.object "java/lang/Object")), Cond.methodLink RJx4a65c 118 yJ15_checkIndex_7cf53, Cond.static yJ15_checkIndex_7cf53, Cond.initialized RJ15, Cond.code yJ15_checkIndex_7cf53 cJ15_checkIndex_7cf53 2 (some .int), Cond.methodLink RJ15 105 yJ3_checkIndex_8e157, Cond.static yJ3_checkIndex_8e157, Cond.initialized RJ3, Cond.code yJ3_checkIndex_8e157 cJ3_checkIndex_8e157 3 (some .int), Cond.methodLink RJx4a65c 123 yJx4a65c_elementData_915e3, Cond.instanceMethod yJx4a65c_elementData_915e3, Cond.selects RJx4a65c yJx4a65c_elementData_915e3 yJx4a65c_elementData_915e3, Cond.code yJx4a65c_elementData_915e3 cJx4a65c_elementData_915e3 2 (some (.object "java/lang/Object")), Cond.fieldLink RJx4a65c 9 "java/util/ArrayList" "elementData" "[Ljava/lang/Object;", Cond.methodLink RX4 59 yX0_forget, Cond.instanceMethod yX0_forget, Cond.selects RX0 yX0_forget yX0_forget, Cond.initialized RX0, Cond.code yX0_forget cX0_forget 1 none, Cond.fieldLink RX0 15 "ObjectMapper$Entity" "inSession" "Z", Cond.fieldLink RX0 49 "ObjectMapper$Entity" "struckOut" "Z", Cond.fieldLink RX0 34 "ObjectMapper$Entity" "hasSnapshot" "Z"]
def wsX4_forgetAll : List Cond := .code yX4_forgetAll cX4_forgetAll 3 none :: ((wsX4_forgetAll_r1 ++ wsX4_forgetAll_r2) ++ wsX40 ++ wsJx4a65c0 ++ wsX00)
def wsX5_init_r1 : List Cond := [Cond.methodLink RX5 1 objectInit, Cond.instanceMethod objectInit, Cond.code objectInit ⟨#[0xb1]⟩ 1 none, Cond.classLink RX5 7 RJx4a65c, Cond.instantiable RJx4a65c 3, Cond.initialized RJx4a65c, Cond.fieldLink RX5 10 "ObjectMapper$Table" "places" "Ljava/util/ArrayList;", Cond.classLink RX5 16 RX3, Cond.instantiable RX3 4, Cond.initialized RX3, Cond.fieldLink RX5 19 "ObjectMapper$Table" "noRow" "LObjectMapper$Row;", Cond.methodLink RX5 9 yJx4a65c_init_da8c8, Cond.instanceMethod yJx4a65c_init_da8c8, Cond.code yJx4a65c_init_da8c8 cJx4a65c_init_da8c8 1 none, Cond.fieldLink RJx4a65c 39 "java/util/ArrayList" "DEFAULTCAPACITY_EMPTY_ELEMENTDATA" "[Ljava/lang/Object;", Cond.fieldLink RJx4a65c 9 "java/util/ArrayList" "elementData" "[Ljava/lang/Object;", Cond.methodLink RJx4a65c 1 yJxc12de_init_da8c8, Cond.instanceMethod yJxc12de_init_da8c8, Cond.initialized RJxc12de, Cond.code yJxc12de_init_da8c8 cJxc12de_init_da8c8 1 none, Cond.fieldLink RJxc12de 7 "java/util/AbstractList" "modCount" "I", Cond.methodLink RJxc12de 1 yJxa1e45_init_da8c8, Cond.instanceMethod yJxa1e45_init_da8c8, Cond.initialized RJxa1e45]
def wsX5_init_r2 : List Cond := [Cond.code yJxa1e45_init_da8c8 cJxa1e45_init_da8c8 1 none, Cond.methodLink RJxa1e45 1 objectInit, Cond.instanceMethod yX3_init, Cond.code yX3_init cX3_init 1 none, Cond.methodLink RX3 3 objectInit, Cond.fieldLink RX3 9 "ObjectMapper$Row" "reference" "I"]
def wsX5_init : List Cond := .code yX5_init cX5_init 1 none :: ((wsX5_init_r1 ++ wsX5_init_r2) ++ wsJx4a65c0 ++ wsX50 ++ wsX30)
def wsX5_size : List Cond := .code yX5_size cX5_size 1 (some .int) :: ([.fieldLink RX5 10 "ObjectMapper$Table" "places" "Ljava/util/ArrayList;", .methodLink RX5 23 yJx4a65c_size_8abf5, .instanceMethod yJx4a65c_size_8abf5, .selects RJx4a65c yJx4a65c_size_8abf5 yJx4a65c_size_8abf5, .initialized RJx4a65c, .code yJx4a65c_size_8abf5 cJx4a65c_size_8abf5 1 (some .int), .fieldLink RJx4a65c 48 "java/util/ArrayList" "size" "I"] ++ wsX50 ++ wsJx4a65c0)
def wsX5_addPlace_r1 : List Cond := [Cond.fieldLink RX5 10 "ObjectMapper$Table" "places" "Ljava/util/ArrayList;", Cond.classLink RX5 16 RX3, Cond.instantiable RX3 4, Cond.initialized RX3, Cond.instanceMethod yX3_init, Cond.code yX3_init cX3_init 1 none, Cond.methodLink RX3 3 objectInit, Cond.instanceMethod objectInit, Cond.code objectInit ⟨#[0xb1]⟩ 1 none, Cond.fieldLink RX3 9 "ObjectMapper$Row" "reference" "I", Cond.methodLink RX5 27 yJx4a65c_add_9ea2d, Cond.instanceMethod yJx4a65c_add_9ea2d, Cond.selects RJx4a65c yJx4a65c_add_9ea2d yJx4a65c_add_9ea2d, Cond.initialized RJx4a65c, Cond.code yJx4a65c_add_9ea2d cJx4a65c_add_9ea2d 2 (some .boolean), Cond.fieldLink RJx4a65c 63 "java/util/ArrayList" "modCount" "I", Cond.sameField "java/util/ArrayList" "java/util/AbstractList" "modCount" "I", Cond.fieldLink RJx4a65c 9 "java/util/ArrayList" "elementData" "[Ljava/lang/Object;", Cond.fieldLink RJx4a65c 48 "java/util/ArrayList" "size" "I", Cond.methodLink RJx4a65c 131 yJx4a65c_add_72be8, Cond.instanceMethod yJx4a65c_add_72be8, Cond.selects RJx4a65c yJx4a65c_add_72be8 yJx4a65c_add_72be8, Cond.code yJx4a65c_add_72be8 cJx4a65c_add_72be8 4 none, Cond.methodLink RJx4a65c 129 yJx4a65c_grow_d5877]
def wsX5_addPlace_r2 : List Cond := [Cond.instanceMethod yJx4a65c_grow_d5877, Cond.selects RJx4a65c yJx4a65c_grow_d5877 yJx4a65c_grow_d5877, Cond.code yJx4a65c_grow_d5877 cJx4a65c_grow_d5877 1 (some (.array (.object "java/lang/Object"))), Cond.methodLink RJx4a65c 69 yJx4a65c_grow_92f84, Cond.instanceMethod yJx4a65c_grow_92f84, Cond.selects RJx4a65c yJx4a65c_grow_92f84 yJx4a65c_grow_92f84, Cond.code yJx4a65c_grow_92f84 cJx4a65c_grow_92f84 4 (some (.array (.object "java/lang/Object"))), Cond.fieldLink RJx4a65c 39 "java/util/ArrayList" "DEFAULTCAPACITY_EMPTY_ELEMENTDATA" "[Ljava/lang/Object;", Cond.methodLink RJx4a65c 79 Lib.Math.max.name, Cond.static Lib.Math.max.name, Cond.initialized "java/lang/Math", Cond.code Lib.Math.max.name Lib.Math.max.code 2 (some .int), Cond.classLink RJx4a65c 7 "java/lang/Object", Cond.methodLink RJx4a65c 73 yJ8_newLength_cabcc, Cond.static yJ8_newLength_cabcc, Cond.initialized RJ8, Cond.code yJ8_newLength_cabcc cJ8_newLength_cabcc 4 (some .int), Cond.methodLink RJ8 194 Lib.Math.max.name, Cond.constant RJ8 200 (2147483639), Cond.methodLink RJ8 201 yJ8_hugeLength_7cf53, Cond.static yJ8_hugeLength_7cf53, Cond.code yJ8_hugeLength_7cf53 cJ8_hugeLength_7cf53 3 (some .int), Cond.methodLink RJx4a65c 66 yJ7_copyOf_1904c, Cond.static yJ7_copyOf_1904c]
def wsX5_addPlace_r3 : List Cond := [Cond.initialized RJ7, Cond.code yJ7_copyOf_1904c cJ7_copyOf_1904c 2 (some (.array (.object "java/lang/Object"))), Cond.methodLink RJ7 86 ⟨"java/lang/Object", "getClass", "()Ljava/lang/Class;"⟩, Cond.selects "[Ljava/lang/Object;" ⟨"java/lang/Object", "getClass", "()Ljava/lang/Class;"⟩ ⟨"java/lang/Object", "getClass", "()Ljava/lang/Class;"⟩, Cond.instanceMethod ⟨"java/lang/Object", "getClass", "()Ljava/lang/Class;"⟩, Cond.native ⟨"java/lang/Object", "getClass", "()Ljava/lang/Class;"⟩, Cond.methodLink RJ7 300 yJ7_copyOf_6403c, Cond.static yJ7_copyOf_6403c, Cond.code yJ7_copyOf_6403c cJ7_copyOf_6403c 4 (some (.array (.object "java/lang/Object"))), Cond.classLink RJ7 110 "[Ljava/lang/Object;", Cond.classLink RJ7 2 "java/lang/Object", Cond.methodLink RJ7 304 Lib.Math.min.name, Cond.static Lib.Math.min.name, Cond.code Lib.Math.min.name Lib.Math.min.code 2 (some .int), Cond.methodLink RJ7 150 arraycopyName, Cond.native arraycopyName, Cond.static arraycopyName, Cond.initialized "java/lang/System"]
def wsX5_addPlace : List Cond := .code yX5_addPlace cX5_addPlace 1 none :: ((wsX5_addPlace_r1 ++ (wsX5_addPlace_r2 ++ wsX5_addPlace_r3)) ++ wsX50 ++ wsX30 ++ wsJx4a65c0)
def wsX5_countThere_r1 : List Cond := [Cond.fieldLink RX5 10 "ObjectMapper$Table" "places" "Ljava/util/ArrayList;", Cond.fieldLink RX5 39 "ObjectMapper$Row" "there" "Z", Cond.methodLink RX5 23 yJx4a65c_size_8abf5, Cond.instanceMethod yJx4a65c_size_8abf5, Cond.selects RJx4a65c yJx4a65c_size_8abf5 yJx4a65c_size_8abf5, Cond.initialized RJx4a65c, Cond.code yJx4a65c_size_8abf5 cJx4a65c_size_8abf5 1 (some .int), Cond.fieldLink RJx4a65c 48 "java/util/ArrayList" "size" "I", Cond.methodLink RX5 35 yX5_rowAt, Cond.instanceMethod yX5_rowAt, Cond.selects RX5 yX5_rowAt yX5_rowAt, Cond.initialized RX5, Cond.code yX5_rowAt cX5_rowAt 2 (some (.object "ObjectMapper$Row")), Cond.fieldLink RX5 19 "ObjectMapper$Table" "noRow" "LObjectMapper$Row;", Cond.classLink RX5 16 "ObjectMapper$Row", Cond.methodLink RX5 31 yJx4a65c_get_915e3, Cond.instanceMethod yJx4a65c_get_915e3, Cond.selects RJx4a65c yJx4a65c_get_915e3 yJx4a65c_get_915e3, Cond.code yJx4a65c_get_915e3 cJx4a65c_get_915e3 2 (some (.object "java/lang/Object")), Cond.methodLink RJx4a65c 118 yJ15_checkIndex_7cf53, Cond.static yJ15_checkIndex_7cf53, Cond.initialized RJ15, Cond.code yJ15_checkIndex_7cf53 cJ15_checkIndex_7cf53 2 (some .int), Cond.methodLink RJ15 105 yJ3_checkIndex_8e157]
def wsX5_countThere_r2 : List Cond := [Cond.static yJ3_checkIndex_8e157, Cond.initialized RJ3, Cond.code yJ3_checkIndex_8e157 cJ3_checkIndex_8e157 3 (some .int), Cond.methodLink RJx4a65c 123 yJx4a65c_elementData_915e3, Cond.instanceMethod yJx4a65c_elementData_915e3, Cond.selects RJx4a65c yJx4a65c_elementData_915e3 yJx4a65c_elementData_915e3, Cond.code yJx4a65c_elementData_915e3 cJx4a65c_elementData_915e3 2 (some (.object "java/lang/Object")), Cond.fieldLink RJx4a65c 9 "java/util/ArrayList" "elementData" "[Ljava/lang/Object;"]
def wsX5_countThere : List Cond := .code yX5_countThere cX5_countThere 3 (some .int) :: ((wsX5_countThere_r1 ++ wsX5_countThere_r2) ++ wsX50 ++ wsX30 ++ wsJx4a65c0)
def wsX6_init_r1 : List Cond := [Cond.methodLink RX6 1 objectInit, Cond.instanceMethod objectInit, Cond.code objectInit ⟨#[0xb1]⟩ 1 none, Cond.classLink RX6 7 RX5, Cond.instantiable RX5 2, Cond.initialized RX5, Cond.fieldLink RX6 10 "ObjectMapper" "authorTable" "LObjectMapper$Table;", Cond.fieldLink RX6 16 "ObjectMapper" "bookTable" "LObjectMapper$Table;", Cond.classLink RX6 19 RX2, Cond.instantiable RX2 3, Cond.initialized RX2, Cond.fieldLink RX6 22 "ObjectMapper" "journal" "LObjectMapper$Journal;", Cond.classLink RX6 26 RX4, Cond.fieldLink RX6 28 "ObjectMapper" "sessions" "[LObjectMapper$Session;", Cond.instantiable RX4 3, Cond.initialized RX4, Cond.instanceMethod yX5_init, Cond.code yX5_init cX5_init 1 none, Cond.methodLink RX5 1 objectInit, Cond.classLink RX5 7 RJx4a65c, Cond.instantiable RJx4a65c 3, Cond.initialized RJx4a65c, Cond.fieldLink RX5 10 "ObjectMapper$Table" "places" "Ljava/util/ArrayList;", Cond.classLink RX5 16 RX3]
def wsX6_init_r2 : List Cond := [Cond.instantiable RX3 4, Cond.initialized RX3, Cond.fieldLink RX5 19 "ObjectMapper$Table" "noRow" "LObjectMapper$Row;", Cond.methodLink RX5 9 yJx4a65c_init_da8c8, Cond.instanceMethod yJx4a65c_init_da8c8, Cond.code yJx4a65c_init_da8c8 cJx4a65c_init_da8c8 1 none, Cond.fieldLink RJx4a65c 39 "java/util/ArrayList" "DEFAULTCAPACITY_EMPTY_ELEMENTDATA" "[Ljava/lang/Object;", Cond.fieldLink RJx4a65c 9 "java/util/ArrayList" "elementData" "[Ljava/lang/Object;", Cond.methodLink RJx4a65c 1 yJxc12de_init_da8c8, Cond.instanceMethod yJxc12de_init_da8c8, Cond.initialized RJxc12de, Cond.code yJxc12de_init_da8c8 cJxc12de_init_da8c8 1 none, Cond.fieldLink RJxc12de 7 "java/util/AbstractList" "modCount" "I", Cond.methodLink RJxc12de 1 yJxa1e45_init_da8c8, Cond.instanceMethod yJxa1e45_init_da8c8, Cond.initialized RJxa1e45, Cond.code yJxa1e45_init_da8c8 cJxa1e45_init_da8c8 1 none, Cond.methodLink RJxa1e45 1 objectInit, Cond.instanceMethod yX3_init, Cond.code yX3_init cX3_init 1 none, Cond.methodLink RX3 3 objectInit, Cond.fieldLink RX3 9 "ObjectMapper$Row" "reference" "I", Cond.instanceMethod yX2_init, Cond.code yX2_init cX2_init 1 none]
def wsX6_init_r3 : List Cond := [Cond.methodLink RX2 3 objectInit, Cond.arrayClass .int, Cond.fieldLink RX2 11 "ObjectMapper$Journal" "actions" "[I", Cond.fieldLink RX2 15 "ObjectMapper$Journal" "rowNumbers" "[I", Cond.instanceMethod yX4_init, Cond.code yX4_init cX4_init 1 none, Cond.methodLink RX4 3 objectInit, Cond.classLink RX4 9 RJx4a65c, Cond.fieldLink RX4 12 "ObjectMapper$Session" "authorPlaces" "Ljava/util/ArrayList;", Cond.fieldLink RX4 18 "ObjectMapper$Session" "bookPlaces" "Ljava/util/ArrayList;", Cond.classLink RX4 21 RX0, Cond.instantiable RX0 8, Cond.initialized RX0, Cond.fieldLink RX4 24 "ObjectMapper$Session" "nobody" "LObjectMapper$Entity;", Cond.methodLink RX4 11 yJx4a65c_init_da8c8, Cond.instanceMethod yX0_init, Cond.code yX0_init cX0_init 1 none, Cond.methodLink RX0 3 objectInit, Cond.fieldLink RX0 9 "ObjectMapper$Entity" "reference" "I"]
def wsX6_init : List Cond := .code yX6_init cX6_init 2 none :: ((wsX6_init_r1 ++ (wsX6_init_r2 ++ wsX6_init_r3)) ++ wsX50 ++ wsX60 ++ wsX20 ++ wsX40 ++ wsJx4a65c0 ++ wsX30 ++ wsX00)
def wsX6_sessionAt : List Cond := .code yX6_sessionAt cX6_sessionAt 2 (some (.object "ObjectMapper$Session")) :: ([.classLink RX6 177 "java/lang/IndexOutOfBoundsException", .initialized "java/lang/IndexOutOfBoundsException", .fieldLink RX6 28 "ObjectMapper" "sessions" "[LObjectMapper$Session;"] ++ wsX60 ++ (vx_atS RX6 181 "java/lang/IndexOutOfBoundsException" ["java/lang/RuntimeException", "java/lang/Exception"]).filter goodWord)
def wsX6_checkRangeOfName : List Cond := .code yX6_checkRangeOfName cX6_checkRangeOfName 1 none :: ([.classLink RX6 98 "java/lang/IllegalArgumentException", .initialized "java/lang/IllegalArgumentException"] ++ (vx_atS RX6 102 "java/lang/IllegalArgumentException" ["java/lang/RuntimeException", "java/lang/Exception"]).filter goodWord)
def wsX6_tableOf : List Cond := .code yX6_tableOf cX6_tableOf 2 (some (.object "ObjectMapper$Table")) :: ([.fieldLink RX6 10 "ObjectMapper" "authorTable" "LObjectMapper$Table;", .fieldLink RX6 16 "ObjectMapper" "bookTable" "LObjectMapper$Table;"] ++ wsX60)
def wsX6_makeEntity_r1 : List Cond := [Cond.fieldLink RX6 28 "ObjectMapper" "sessions" "[LObjectMapper$Session;", Cond.methodLink RX6 52 yX6_tableOf, Cond.instanceMethod yX6_tableOf, Cond.selects RX6 yX6_tableOf yX6_tableOf, Cond.initialized RX6, Cond.code yX6_tableOf cX6_tableOf 2 (some (.object "ObjectMapper$Table")), Cond.fieldLink RX6 10 "ObjectMapper" "authorTable" "LObjectMapper$Table;", Cond.fieldLink RX6 16 "ObjectMapper" "bookTable" "LObjectMapper$Table;", Cond.methodLink RX6 192 yX5_size, Cond.instanceMethod yX5_size, Cond.selects RX5 yX5_size yX5_size, Cond.initialized RX5, Cond.code yX5_size cX5_size 1 (some .int), Cond.fieldLink RX5 10 "ObjectMapper$Table" "places" "Ljava/util/ArrayList;", Cond.methodLink RX5 23 yJx4a65c_size_8abf5, Cond.instanceMethod yJx4a65c_size_8abf5, Cond.selects RJx4a65c yJx4a65c_size_8abf5 yJx4a65c_size_8abf5, Cond.initialized RJx4a65c, Cond.code yJx4a65c_size_8abf5 cJx4a65c_size_8abf5 1 (some .int), Cond.fieldLink RJx4a65c 48 "java/util/ArrayList" "size" "I", Cond.methodLink RX6 194 yX5_addPlace, Cond.instanceMethod yX5_addPlace, Cond.selects RX5 yX5_addPlace yX5_addPlace, Cond.code yX5_addPlace cX5_addPlace 1 none]
def wsX6_makeEntity_r2 : List Cond := [Cond.classLink RX5 16 RX3, Cond.instantiable RX3 4, Cond.initialized RX3, Cond.instanceMethod yX3_init, Cond.code yX3_init cX3_init 1 none, Cond.methodLink RX3 3 objectInit, Cond.instanceMethod objectInit, Cond.code objectInit ⟨#[0xb1]⟩ 1 none, Cond.fieldLink RX3 9 "ObjectMapper$Row" "reference" "I", Cond.methodLink RX5 27 yJx4a65c_add_9ea2d, Cond.instanceMethod yJx4a65c_add_9ea2d, Cond.selects RJx4a65c yJx4a65c_add_9ea2d yJx4a65c_add_9ea2d, Cond.code yJx4a65c_add_9ea2d cJx4a65c_add_9ea2d 2 (some .boolean), Cond.fieldLink RJx4a65c 63 "java/util/ArrayList" "modCount" "I", Cond.sameField "java/util/ArrayList" "java/util/AbstractList" "modCount" "I", Cond.fieldLink RJx4a65c 9 "java/util/ArrayList" "elementData" "[Ljava/lang/Object;", Cond.methodLink RJx4a65c 131 yJx4a65c_add_72be8, Cond.instanceMethod yJx4a65c_add_72be8, Cond.selects RJx4a65c yJx4a65c_add_72be8 yJx4a65c_add_72be8, Cond.code yJx4a65c_add_72be8 cJx4a65c_add_72be8 4 none, Cond.methodLink RJx4a65c 129 yJx4a65c_grow_d5877, Cond.instanceMethod yJx4a65c_grow_d5877, Cond.selects RJx4a65c yJx4a65c_grow_d5877 yJx4a65c_grow_d5877, Cond.code yJx4a65c_grow_d5877 cJx4a65c_grow_d5877 1 (some (.array (.object "java/lang/Object")))]
def wsX6_makeEntity_r3 : List Cond := [Cond.methodLink RJx4a65c 69 yJx4a65c_grow_92f84, Cond.instanceMethod yJx4a65c_grow_92f84, Cond.selects RJx4a65c yJx4a65c_grow_92f84 yJx4a65c_grow_92f84, Cond.code yJx4a65c_grow_92f84 cJx4a65c_grow_92f84 4 (some (.array (.object "java/lang/Object"))), Cond.fieldLink RJx4a65c 39 "java/util/ArrayList" "DEFAULTCAPACITY_EMPTY_ELEMENTDATA" "[Ljava/lang/Object;", Cond.methodLink RJx4a65c 79 Lib.Math.max.name, Cond.static Lib.Math.max.name, Cond.initialized "java/lang/Math", Cond.code Lib.Math.max.name Lib.Math.max.code 2 (some .int), Cond.classLink RJx4a65c 7 "java/lang/Object", Cond.methodLink RJx4a65c 73 yJ8_newLength_cabcc, Cond.static yJ8_newLength_cabcc, Cond.initialized RJ8, Cond.code yJ8_newLength_cabcc cJ8_newLength_cabcc 4 (some .int), Cond.methodLink RJ8 194 Lib.Math.max.name, Cond.constant RJ8 200 (2147483639), Cond.methodLink RJ8 201 yJ8_hugeLength_7cf53, Cond.static yJ8_hugeLength_7cf53, Cond.code yJ8_hugeLength_7cf53 cJ8_hugeLength_7cf53 3 (some .int), Cond.methodLink RJx4a65c 66 yJ7_copyOf_1904c, Cond.static yJ7_copyOf_1904c, Cond.initialized RJ7, Cond.code yJ7_copyOf_1904c cJ7_copyOf_1904c 2 (some (.array (.object "java/lang/Object"))), Cond.methodLink RJ7 86 ⟨"java/lang/Object", "getClass", "()Ljava/lang/Class;"⟩]
def wsX6_makeEntity_r4 : List Cond := [Cond.selects "[Ljava/lang/Object;" ⟨"java/lang/Object", "getClass", "()Ljava/lang/Class;"⟩ ⟨"java/lang/Object", "getClass", "()Ljava/lang/Class;"⟩, Cond.instanceMethod ⟨"java/lang/Object", "getClass", "()Ljava/lang/Class;"⟩, Cond.native ⟨"java/lang/Object", "getClass", "()Ljava/lang/Class;"⟩, Cond.methodLink RJ7 300 yJ7_copyOf_6403c, Cond.static yJ7_copyOf_6403c, Cond.code yJ7_copyOf_6403c cJ7_copyOf_6403c 4 (some (.array (.object "java/lang/Object"))), Cond.classLink RJ7 110 "[Ljava/lang/Object;", Cond.classLink RJ7 2 "java/lang/Object", Cond.methodLink RJ7 304 Lib.Math.min.name, Cond.static Lib.Math.min.name, Cond.code Lib.Math.min.name Lib.Math.min.code 2 (some .int), Cond.methodLink RJ7 150 arraycopyName, Cond.native arraycopyName, Cond.static arraycopyName, Cond.initialized "java/lang/System", Cond.methodLink RX6 197 yX4_addPlace, Cond.instanceMethod yX4_addPlace, Cond.selects RX4 yX4_addPlace yX4_addPlace, Cond.initialized RX4, Cond.code yX4_addPlace cX4_addPlace 2 none, Cond.classLink RX4 21 RX0, Cond.instantiable RX0 8, Cond.initialized RX0, Cond.methodLink RX4 28 yX4_listOf]
def wsX6_makeEntity_r5 : List Cond := [Cond.instanceMethod yX4_listOf, Cond.selects RX4 yX4_listOf yX4_listOf, Cond.code yX4_listOf cX4_listOf 2 (some (.object "java/util/ArrayList")), Cond.fieldLink RX4 12 "ObjectMapper$Session" "authorPlaces" "Ljava/util/ArrayList;", Cond.fieldLink RX4 18 "ObjectMapper$Session" "bookPlaces" "Ljava/util/ArrayList;", Cond.instanceMethod yX0_init, Cond.code yX0_init cX0_init 1 none, Cond.methodLink RX0 3 objectInit, Cond.fieldLink RX0 9 "ObjectMapper$Entity" "reference" "I", Cond.methodLink RX4 36 yJx4a65c_add_9ea2d, Cond.methodLink RX6 60 yX4_entityAt, Cond.instanceMethod yX4_entityAt, Cond.selects RX4 yX4_entityAt yX4_entityAt, Cond.code yX4_entityAt cX4_entityAt 4 (some (.object "ObjectMapper$Entity")), Cond.fieldLink RX4 24 "ObjectMapper$Session" "nobody" "LObjectMapper$Entity;", Cond.classLink RX4 21 "ObjectMapper$Entity", Cond.methodLink RX4 32 yJx4a65c_size_8abf5, Cond.methodLink RX4 40 yJx4a65c_get_915e3, Cond.instanceMethod yJx4a65c_get_915e3, Cond.selects RJx4a65c yJx4a65c_get_915e3 yJx4a65c_get_915e3, Cond.code yJx4a65c_get_915e3 cJx4a65c_get_915e3 2 (some (.object "java/lang/Object")), Cond.methodLink RJx4a65c 118 yJ15_checkIndex_7cf53, Cond.static yJ15_checkIndex_7cf53, Cond.initialized RJ15]
def wsX6_makeEntity_r6 : List Cond := [Cond.code yJ15_checkIndex_7cf53 cJ15_checkIndex_7cf53 2 (some .int), Cond.methodLink RJ15 105 yJ3_checkIndex_8e157, Cond.static yJ3_checkIndex_8e157, Cond.initialized RJ3, Cond.code yJ3_checkIndex_8e157 cJ3_checkIndex_8e157 3 (some .int), Cond.methodLink RJx4a65c 123 yJx4a65c_elementData_915e3, Cond.instanceMethod yJx4a65c_elementData_915e3, Cond.selects RJx4a65c yJx4a65c_elementData_915e3 yJx4a65c_elementData_915e3, Cond.code yJx4a65c_elementData_915e3 cJx4a65c_elementData_915e3 2 (some (.object "java/lang/Object")), Cond.methodLink RX6 199 yX0_make, Cond.instanceMethod yX0_make, Cond.selects RX0 yX0_make yX0_make, Cond.code yX0_make cX0_make 3 none, Cond.fieldLink RX0 15 "ObjectMapper$Entity" "inSession" "Z", Cond.fieldLink RX0 19 "ObjectMapper$Entity" "name" "I"]
def wsX6_makeEntity : List Cond := .code yX6_makeEntity cX6_makeEntity 7 (some .int) :: ((wsX6_makeEntity_r1 ++ (wsX6_makeEntity_r2 ++ (wsX6_makeEntity_r3 ++ (wsX6_makeEntity_r4 ++ (wsX6_makeEntity_r5 ++ wsX6_makeEntity_r6))))) ++ wsX60 ++ wsX50 ++ wsJx4a65c0 ++ wsX30 ++ wsX00 ++ wsX40)
def wsX6_makeAuthor_r1 : List Cond := [Cond.methodLink RX6 33 yX6_sessionAt, Cond.instanceMethod yX6_sessionAt, Cond.selects RX6 yX6_sessionAt yX6_sessionAt, Cond.initialized RX6, Cond.code yX6_sessionAt cX6_sessionAt 2 (some (.object "ObjectMapper$Session")), Cond.classLink RX6 177 "java/lang/IndexOutOfBoundsException", Cond.initialized "java/lang/IndexOutOfBoundsException", Cond.fieldLink RX6 28 "ObjectMapper" "sessions" "[LObjectMapper$Session;", Cond.methodLink RX6 37 yX6_checkRangeOfName, Cond.static yX6_checkRangeOfName, Cond.code yX6_checkRangeOfName cX6_checkRangeOfName 1 none, Cond.classLink RX6 98 "java/lang/IllegalArgumentException", Cond.initialized "java/lang/IllegalArgumentException", Cond.methodLink RX6 41 yX6_makeEntity, Cond.instanceMethod yX6_makeEntity, Cond.selects RX6 yX6_makeEntity yX6_makeEntity, Cond.code yX6_makeEntity cX6_makeEntity 7 (some .int), Cond.methodLink RX6 52 yX6_tableOf, Cond.instanceMethod yX6_tableOf, Cond.selects RX6 yX6_tableOf yX6_tableOf, Cond.code yX6_tableOf cX6_tableOf 2 (some (.object "ObjectMapper$Table")), Cond.fieldLink RX6 10 "ObjectMapper" "authorTable" "LObjectMapper$Table;", Cond.fieldLink RX6 16 "ObjectMapper" "bookTable" "LObjectMapper$Table;", Cond.methodLink RX6 192 yX5_size]
def wsX6_makeAuthor_r2 : List Cond := [Cond.instanceMethod yX5_size, Cond.selects RX5 yX5_size yX5_size, Cond.initialized RX5, Cond.code yX5_size cX5_size 1 (some .int), Cond.fieldLink RX5 10 "ObjectMapper$Table" "places" "Ljava/util/ArrayList;", Cond.methodLink RX5 23 yJx4a65c_size_8abf5, Cond.instanceMethod yJx4a65c_size_8abf5, Cond.selects RJx4a65c yJx4a65c_size_8abf5 yJx4a65c_size_8abf5, Cond.initialized RJx4a65c, Cond.code yJx4a65c_size_8abf5 cJx4a65c_size_8abf5 1 (some .int), Cond.fieldLink RJx4a65c 48 "java/util/ArrayList" "size" "I", Cond.methodLink RX6 194 yX5_addPlace, Cond.instanceMethod yX5_addPlace, Cond.selects RX5 yX5_addPlace yX5_addPlace, Cond.code yX5_addPlace cX5_addPlace 1 none, Cond.classLink RX5 16 RX3, Cond.instantiable RX3 4, Cond.initialized RX3, Cond.instanceMethod yX3_init, Cond.code yX3_init cX3_init 1 none, Cond.methodLink RX3 3 objectInit, Cond.instanceMethod objectInit, Cond.code objectInit ⟨#[0xb1]⟩ 1 none, Cond.fieldLink RX3 9 "ObjectMapper$Row" "reference" "I"]
def wsX6_makeAuthor_r3 : List Cond := [Cond.methodLink RX5 27 yJx4a65c_add_9ea2d, Cond.instanceMethod yJx4a65c_add_9ea2d, Cond.selects RJx4a65c yJx4a65c_add_9ea2d yJx4a65c_add_9ea2d, Cond.code yJx4a65c_add_9ea2d cJx4a65c_add_9ea2d 2 (some .boolean), Cond.fieldLink RJx4a65c 63 "java/util/ArrayList" "modCount" "I", Cond.sameField "java/util/ArrayList" "java/util/AbstractList" "modCount" "I", Cond.fieldLink RJx4a65c 9 "java/util/ArrayList" "elementData" "[Ljava/lang/Object;", Cond.methodLink RJx4a65c 131 yJx4a65c_add_72be8, Cond.instanceMethod yJx4a65c_add_72be8, Cond.selects RJx4a65c yJx4a65c_add_72be8 yJx4a65c_add_72be8, Cond.code yJx4a65c_add_72be8 cJx4a65c_add_72be8 4 none, Cond.methodLink RJx4a65c 129 yJx4a65c_grow_d5877, Cond.instanceMethod yJx4a65c_grow_d5877, Cond.selects RJx4a65c yJx4a65c_grow_d5877 yJx4a65c_grow_d5877, Cond.code yJx4a65c_grow_d5877 cJx4a65c_grow_d5877 1 (some (.array (.object "java/lang/Object"))), Cond.methodLink RJx4a65c 69 yJx4a65c_grow_92f84, Cond.instanceMethod yJx4a65c_grow_92f84, Cond.selects RJx4a65c yJx4a65c_grow_92f84 yJx4a65c_grow_92f84, Cond.code yJx4a65c_grow_92f84 cJx4a65c_grow_92f84 4 (some (.array (.object "java/lang/Object"))), Cond.fieldLink RJx4a65c 39 "java/util/ArrayList" "DEFAULTCAPACITY_EMPTY_ELEMENTDATA" "[Ljava/lang/Object;", Cond.methodLink RJx4a65c 79 Lib.Math.max.name, Cond.static Lib.Math.max.name, Cond.initialized "java/lang/Math", Cond.code Lib.Math.max.name Lib.Math.max.code 2 (some .int)]
def wsX6_makeAuthor_r4 : List Cond := [Cond.classLink RJx4a65c 7 "java/lang/Object", Cond.methodLink RJx4a65c 73 yJ8_newLength_cabcc, Cond.static yJ8_newLength_cabcc, Cond.initialized RJ8, Cond.code yJ8_newLength_cabcc cJ8_newLength_cabcc 4 (some .int), Cond.methodLink RJ8 194 Lib.Math.max.name, Cond.constant RJ8 200 (2147483639), Cond.methodLink RJ8 201 yJ8_hugeLength_7cf53, Cond.static yJ8_hugeLength_7cf53, Cond.code yJ8_hugeLength_7cf53 cJ8_hugeLength_7cf53 3 (some .int), Cond.methodLink RJx4a65c 66 yJ7_copyOf_1904c, Cond.static yJ7_copyOf_1904c, Cond.initialized RJ7, Cond.code yJ7_copyOf_1904c cJ7_copyOf_1904c 2 (some (.array (.object "java/lang/Object"))), Cond.methodLink RJ7 86 ⟨"java/lang/Object", "getClass", "()Ljava/lang/Class;"⟩, Cond.selects "[Ljava/lang/Object;" ⟨"java/lang/Object", "getClass", "()Ljava/lang/Class;"⟩ ⟨"java/lang/Object", "getClass", "()Ljava/lang/Class;"⟩, Cond.instanceMethod ⟨"java/lang/Object", "getClass", "()Ljava/lang/Class;"⟩, Cond.native ⟨"java/lang/Object", "getClass", "()Ljava/lang/Class;"⟩, Cond.methodLink RJ7 300 yJ7_copyOf_6403c, Cond.static yJ7_copyOf_6403c, Cond.code yJ7_copyOf_6403c cJ7_copyOf_6403c 4 (some (.array (.object "java/lang/Object"))), Cond.classLink RJ7 110 "[Ljava/lang/Object;", Cond.classLink RJ7 2 "java/lang/Object", Cond.methodLink RJ7 304 Lib.Math.min.name]
def wsX6_makeAuthor_r5 : List Cond := [Cond.static Lib.Math.min.name, Cond.code Lib.Math.min.name Lib.Math.min.code 2 (some .int), Cond.methodLink RJ7 150 arraycopyName, Cond.native arraycopyName, Cond.static arraycopyName, Cond.initialized "java/lang/System", Cond.methodLink RX6 197 yX4_addPlace, Cond.instanceMethod yX4_addPlace, Cond.selects RX4 yX4_addPlace yX4_addPlace, Cond.initialized RX4, Cond.code yX4_addPlace cX4_addPlace 2 none, Cond.classLink RX4 21 RX0, Cond.instantiable RX0 8, Cond.initialized RX0, Cond.methodLink RX4 28 yX4_listOf, Cond.instanceMethod yX4_listOf, Cond.selects RX4 yX4_listOf yX4_listOf, Cond.code yX4_listOf cX4_listOf 2 (some (.object "java/util/ArrayList")), Cond.fieldLink RX4 12 "ObjectMapper$Session" "authorPlaces" "Ljava/util/ArrayList;", Cond.fieldLink RX4 18 "ObjectMapper$Session" "bookPlaces" "Ljava/util/ArrayList;", Cond.instanceMethod yX0_init, Cond.code yX0_init cX0_init 1 none, Cond.methodLink RX0 3 objectInit, Cond.fieldLink RX0 9 "ObjectMapper$Entity" "reference" "I"]
def wsX6_makeAuthor_r6 : List Cond := [Cond.methodLink RX4 36 yJx4a65c_add_9ea2d, Cond.methodLink RX6 60 yX4_entityAt, Cond.instanceMethod yX4_entityAt, Cond.selects RX4 yX4_entityAt yX4_entityAt, Cond.code yX4_entityAt cX4_entityAt 4 (some (.object "ObjectMapper$Entity")), Cond.fieldLink RX4 24 "ObjectMapper$Session" "nobody" "LObjectMapper$Entity;", Cond.classLink RX4 21 "ObjectMapper$Entity", Cond.methodLink RX4 32 yJx4a65c_size_8abf5, Cond.methodLink RX4 40 yJx4a65c_get_915e3, Cond.instanceMethod yJx4a65c_get_915e3, Cond.selects RJx4a65c yJx4a65c_get_915e3 yJx4a65c_get_915e3, Cond.code yJx4a65c_get_915e3 cJx4a65c_get_915e3 2 (some (.object "java/lang/Object")), Cond.methodLink RJx4a65c 118 yJ15_checkIndex_7cf53, Cond.static yJ15_checkIndex_7cf53, Cond.initialized RJ15, Cond.code yJ15_checkIndex_7cf53 cJ15_checkIndex_7cf53 2 (some .int), Cond.methodLink RJ15 105 yJ3_checkIndex_8e157, Cond.static yJ3_checkIndex_8e157, Cond.initialized RJ3, Cond.code yJ3_checkIndex_8e157 cJ3_checkIndex_8e157 3 (some .int), Cond.methodLink RJx4a65c 123 yJx4a65c_elementData_915e3, Cond.instanceMethod yJx4a65c_elementData_915e3, Cond.selects RJx4a65c yJx4a65c_elementData_915e3 yJx4a65c_elementData_915e3, Cond.code yJx4a65c_elementData_915e3 cJx4a65c_elementData_915e3 2 (some (.object "java/lang/Object"))]
def wsX6_makeAuthor_r7 : List Cond := [Cond.methodLink RX6 199 yX0_make, Cond.instanceMethod yX0_make, Cond.selects RX0 yX0_make yX0_make, Cond.code yX0_make cX0_make 3 none, Cond.fieldLink RX0 15 "ObjectMapper$Entity" "inSession" "Z", Cond.fieldLink RX0 19 "ObjectMapper$Entity" "name" "I"]
def wsX6_makeAuthor : List Cond := .code yX6_makeAuthor cX6_makeAuthor 4 (some .int) :: ((wsX6_makeAuthor_r1 ++ (wsX6_makeAuthor_r2 ++ (wsX6_makeAuthor_r3 ++ (wsX6_makeAuthor_r4 ++ (wsX6_makeAuthor_r5 ++ (wsX6_makeAuthor_r6 ++ wsX6_makeAuthor_r7)))))) ++ wsX60 ++ wsX50 ++ wsJx4a65c0 ++ wsX30 ++ wsX00 ++ wsX40 ++ (vx_atS RX6 181 "java/lang/IndexOutOfBoundsException" ["java/lang/RuntimeException", "java/lang/Exception"]).filter goodWord ++ (vx_atS RX6 102 "java/lang/IllegalArgumentException" ["java/lang/RuntimeException", "java/lang/Exception"]).filter goodWord)
def wsX6_checkLive_r1 : List Cond := [Cond.classLink RX6 128 "java/lang/IllegalStateException", Cond.initialized "java/lang/IllegalStateException", Cond.methodLink RX6 60 yX4_entityAt, Cond.instanceMethod yX4_entityAt, Cond.selects RX4 yX4_entityAt yX4_entityAt, Cond.initialized RX4, Cond.code yX4_entityAt cX4_entityAt 4 (some (.object "ObjectMapper$Entity")), Cond.fieldLink RX4 24 "ObjectMapper$Session" "nobody" "LObjectMapper$Entity;", Cond.classLink RX4 21 "ObjectMapper$Entity", Cond.methodLink RX4 28 yX4_listOf, Cond.instanceMethod yX4_listOf, Cond.selects RX4 yX4_listOf yX4_listOf, Cond.code yX4_listOf cX4_listOf 2 (some (.object "java/util/ArrayList")), Cond.fieldLink RX4 12 "ObjectMapper$Session" "authorPlaces" "Ljava/util/ArrayList;", Cond.fieldLink RX4 18 "ObjectMapper$Session" "bookPlaces" "Ljava/util/ArrayList;", Cond.methodLink RX4 32 yJx4a65c_size_8abf5, Cond.instanceMethod yJx4a65c_size_8abf5, Cond.selects RJx4a65c yJx4a65c_size_8abf5 yJx4a65c_size_8abf5, Cond.initialized RJx4a65c, Cond.code yJx4a65c_size_8abf5 cJx4a65c_size_8abf5 1 (some .int), Cond.fieldLink RJx4a65c 48 "java/util/ArrayList" "size" "I", Cond.methodLink RX4 40 yJx4a65c_get_915e3, Cond.instanceMethod yJx4a65c_get_915e3, Cond.selects RJx4a65c yJx4a65c_get_915e3 yJx4a65c_get_915e3]
def wsX6_checkLive_r2 : List Cond := [Cond.code yJx4a65c_get_915e3 cJx4a65c_get_915e3 2 (some (.object "java/lang/Object")), Cond.methodLink RJx4a65c 118 yJ15_checkIndex_7cf53, Cond.static yJ15_checkIndex_7cf53, Cond.initialized RJ15, Cond.code yJ15_checkIndex_7cf53 cJ15_checkIndex_7cf53 2 (some .int), Cond.methodLink RJ15 105 yJ3_checkIndex_8e157, Cond.static yJ3_checkIndex_8e157, Cond.initialized RJ3, Cond.code yJ3_checkIndex_8e157 cJ3_checkIndex_8e157 3 (some .int), Cond.methodLink RJx4a65c 123 yJx4a65c_elementData_915e3, Cond.instanceMethod yJx4a65c_elementData_915e3, Cond.selects RJx4a65c yJx4a65c_elementData_915e3 yJx4a65c_elementData_915e3, Cond.code yJx4a65c_elementData_915e3 cJx4a65c_elementData_915e3 2 (some (.object "java/lang/Object")), Cond.fieldLink RJx4a65c 9 "java/util/ArrayList" "elementData" "[Ljava/lang/Object;", Cond.methodLink RX6 79 yX0_isLive, Cond.instanceMethod yX0_isLive, Cond.selects RX0 yX0_isLive yX0_isLive, Cond.initialized RX0, Cond.code yX0_isLive cX0_isLive 1 (some .boolean), Cond.fieldLink RX0 15 "ObjectMapper$Entity" "inSession" "Z", Cond.fieldLink RX0 49 "ObjectMapper$Entity" "struckOut" "Z"]
def wsX6_checkLive : List Cond := .code yX6_checkLive cX6_checkLive 3 none :: ((wsX6_checkLive_r1 ++ wsX6_checkLive_r2) ++ wsX40 ++ wsJx4a65c0 ++ wsX00 ++ (vx_atS RX6 132 "java/lang/IllegalStateException" ["java/lang/RuntimeException", "java/lang/Exception"]).filter goodWord)
def wsX6_makeBook_r1 : List Cond := [Cond.methodLink RX6 33 yX6_sessionAt, Cond.instanceMethod yX6_sessionAt, Cond.selects RX6 yX6_sessionAt yX6_sessionAt, Cond.initialized RX6, Cond.code yX6_sessionAt cX6_sessionAt 2 (some (.object "ObjectMapper$Session")), Cond.classLink RX6 177 "java/lang/IndexOutOfBoundsException", Cond.initialized "java/lang/IndexOutOfBoundsException", Cond.fieldLink RX6 28 "ObjectMapper" "sessions" "[LObjectMapper$Session;", Cond.methodLink RX6 37 yX6_checkRangeOfName, Cond.static yX6_checkRangeOfName, Cond.code yX6_checkRangeOfName cX6_checkRangeOfName 1 none, Cond.classLink RX6 98 "java/lang/IllegalArgumentException", Cond.initialized "java/lang/IllegalArgumentException", Cond.methodLink RX6 45 yX6_checkLive, Cond.static yX6_checkLive, Cond.code yX6_checkLive cX6_checkLive 3 none, Cond.classLink RX6 128 "java/lang/IllegalStateException", Cond.initialized "java/lang/IllegalStateException", Cond.methodLink RX6 60 yX4_entityAt, Cond.instanceMethod yX4_entityAt, Cond.selects RX4 yX4_entityAt yX4_entityAt, Cond.initialized RX4, Cond.code yX4_entityAt cX4_entityAt 4 (some (.object "ObjectMapper$Entity")), Cond.fieldLink RX4 24 "ObjectMapper$Session" "nobody" "LObjectMapper$Entity;"]
def wsX6_makeBook_r2 : List Cond := [Cond.classLink RX4 21 "ObjectMapper$Entity", Cond.methodLink RX4 28 yX4_listOf, Cond.instanceMethod yX4_listOf, Cond.selects RX4 yX4_listOf yX4_listOf, Cond.code yX4_listOf cX4_listOf 2 (some (.object "java/util/ArrayList")), Cond.fieldLink RX4 12 "ObjectMapper$Session" "authorPlaces" "Ljava/util/ArrayList;", Cond.fieldLink RX4 18 "ObjectMapper$Session" "bookPlaces" "Ljava/util/ArrayList;", Cond.methodLink RX4 32 yJx4a65c_size_8abf5, Cond.instanceMethod yJx4a65c_size_8abf5, Cond.selects RJx4a65c yJx4a65c_size_8abf5 yJx4a65c_size_8abf5, Cond.initialized RJx4a65c, Cond.code yJx4a65c_size_8abf5 cJx4a65c_size_8abf5 1 (some .int), Cond.fieldLink RJx4a65c 48 "java/util/ArrayList" "size" "I", Cond.methodLink RX4 40 yJx4a65c_get_915e3, Cond.instanceMethod yJx4a65c_get_915e3, Cond.selects RJx4a65c yJx4a65c_get_915e3 yJx4a65c_get_915e3, Cond.code yJx4a65c_get_915e3 cJx4a65c_get_915e3 2 (some (.object "java/lang/Object")), Cond.methodLink RJx4a65c 118 yJ15_checkIndex_7cf53, Cond.static yJ15_checkIndex_7cf53, Cond.initialized RJ15, Cond.code yJ15_checkIndex_7cf53 cJ15_checkIndex_7cf53 2 (some .int), Cond.methodLink RJ15 105 yJ3_checkIndex_8e157, Cond.static yJ3_checkIndex_8e157, Cond.initialized RJ3]
def wsX6_makeBook_r3 : List Cond := [Cond.code yJ3_checkIndex_8e157 cJ3_checkIndex_8e157 3 (some .int), Cond.methodLink RJx4a65c 123 yJx4a65c_elementData_915e3, Cond.instanceMethod yJx4a65c_elementData_915e3, Cond.selects RJx4a65c yJx4a65c_elementData_915e3 yJx4a65c_elementData_915e3, Cond.code yJx4a65c_elementData_915e3 cJx4a65c_elementData_915e3 2 (some (.object "java/lang/Object")), Cond.fieldLink RJx4a65c 9 "java/util/ArrayList" "elementData" "[Ljava/lang/Object;", Cond.methodLink RX6 79 yX0_isLive, Cond.instanceMethod yX0_isLive, Cond.selects RX0 yX0_isLive yX0_isLive, Cond.initialized RX0, Cond.code yX0_isLive cX0_isLive 1 (some .boolean), Cond.fieldLink RX0 15 "ObjectMapper$Entity" "inSession" "Z", Cond.fieldLink RX0 49 "ObjectMapper$Entity" "struckOut" "Z", Cond.methodLink RX6 41 yX6_makeEntity, Cond.instanceMethod yX6_makeEntity, Cond.selects RX6 yX6_makeEntity yX6_makeEntity, Cond.code yX6_makeEntity cX6_makeEntity 7 (some .int), Cond.methodLink RX6 52 yX6_tableOf, Cond.instanceMethod yX6_tableOf, Cond.selects RX6 yX6_tableOf yX6_tableOf, Cond.code yX6_tableOf cX6_tableOf 2 (some (.object "ObjectMapper$Table")), Cond.fieldLink RX6 10 "ObjectMapper" "authorTable" "LObjectMapper$Table;", Cond.fieldLink RX6 16 "ObjectMapper" "bookTable" "LObjectMapper$Table;", Cond.methodLink RX6 192 yX5_size]
def wsX6_makeBook_r4 : List Cond := [Cond.instanceMethod yX5_size, Cond.selects RX5 yX5_size yX5_size, Cond.initialized RX5, Cond.code yX5_size cX5_size 1 (some .int), Cond.fieldLink RX5 10 "ObjectMapper$Table" "places" "Ljava/util/ArrayList;", Cond.methodLink RX5 23 yJx4a65c_size_8abf5, Cond.methodLink RX6 194 yX5_addPlace, Cond.instanceMethod yX5_addPlace, Cond.selects RX5 yX5_addPlace yX5_addPlace, Cond.code yX5_addPlace cX5_addPlace 1 none, Cond.classLink RX5 16 RX3, Cond.instantiable RX3 4, Cond.initialized RX3, Cond.instanceMethod yX3_init, Cond.code yX3_init cX3_init 1 none, Cond.methodLink RX3 3 objectInit, Cond.instanceMethod objectInit, Cond.code objectInit ⟨#[0xb1]⟩ 1 none, Cond.fieldLink RX3 9 "ObjectMapper$Row" "reference" "I", Cond.methodLink RX5 27 yJx4a65c_add_9ea2d, Cond.instanceMethod yJx4a65c_add_9ea2d, Cond.selects RJx4a65c yJx4a65c_add_9ea2d yJx4a65c_add_9ea2d, Cond.code yJx4a65c_add_9ea2d cJx4a65c_add_9ea2d 2 (some .boolean), Cond.fieldLink RJx4a65c 63 "java/util/ArrayList" "modCount" "I"]
def wsX6_makeBook_r5 : List Cond := [Cond.sameField "java/util/ArrayList" "java/util/AbstractList" "modCount" "I", Cond.methodLink RJx4a65c 131 yJx4a65c_add_72be8, Cond.instanceMethod yJx4a65c_add_72be8, Cond.selects RJx4a65c yJx4a65c_add_72be8 yJx4a65c_add_72be8, Cond.code yJx4a65c_add_72be8 cJx4a65c_add_72be8 4 none, Cond.methodLink RJx4a65c 129 yJx4a65c_grow_d5877, Cond.instanceMethod yJx4a65c_grow_d5877, Cond.selects RJx4a65c yJx4a65c_grow_d5877 yJx4a65c_grow_d5877, Cond.code yJx4a65c_grow_d5877 cJx4a65c_grow_d5877 1 (some (.array (.object "java/lang/Object"))), Cond.methodLink RJx4a65c 69 yJx4a65c_grow_92f84, Cond.instanceMethod yJx4a65c_grow_92f84, Cond.selects RJx4a65c yJx4a65c_grow_92f84 yJx4a65c_grow_92f84, Cond.code yJx4a65c_grow_92f84 cJx4a65c_grow_92f84 4 (some (.array (.object "java/lang/Object"))), Cond.fieldLink RJx4a65c 39 "java/util/ArrayList" "DEFAULTCAPACITY_EMPTY_ELEMENTDATA" "[Ljava/lang/Object;", Cond.methodLink RJx4a65c 79 Lib.Math.max.name, Cond.static Lib.Math.max.name, Cond.initialized "java/lang/Math", Cond.code Lib.Math.max.name Lib.Math.max.code 2 (some .int), Cond.classLink RJx4a65c 7 "java/lang/Object", Cond.methodLink RJx4a65c 73 yJ8_newLength_cabcc, Cond.static yJ8_newLength_cabcc, Cond.initialized RJ8, Cond.code yJ8_newLength_cabcc cJ8_newLength_cabcc 4 (some .int), Cond.methodLink RJ8 194 Lib.Math.max.name]
def wsX6_makeBook_r6 : List Cond := [Cond.constant RJ8 200 (2147483639), Cond.methodLink RJ8 201 yJ8_hugeLength_7cf53, Cond.static yJ8_hugeLength_7cf53, Cond.code yJ8_hugeLength_7cf53 cJ8_hugeLength_7cf53 3 (some .int), Cond.methodLink RJx4a65c 66 yJ7_copyOf_1904c, Cond.static yJ7_copyOf_1904c, Cond.initialized RJ7, Cond.code yJ7_copyOf_1904c cJ7_copyOf_1904c 2 (some (.array (.object "java/lang/Object"))), Cond.methodLink RJ7 86 ⟨"java/lang/Object", "getClass", "()Ljava/lang/Class;"⟩, Cond.selects "[Ljava/lang/Object;" ⟨"java/lang/Object", "getClass", "()Ljava/lang/Class;"⟩ ⟨"java/lang/Object", "getClass", "()Ljava/lang/Class;"⟩, Cond.instanceMethod ⟨"java/lang/Object", "getClass", "()Ljava/lang/Class;"⟩, Cond.native ⟨"java/lang/Object", "getClass", "()Ljava/lang/Class;"⟩, Cond.methodLink RJ7 300 yJ7_copyOf_6403c, Cond.static yJ7_copyOf_6403c, Cond.code yJ7_copyOf_6403c cJ7_copyOf_6403c 4 (some (.array (.object "java/lang/Object"))), Cond.classLink RJ7 110 "[Ljava/lang/Object;", Cond.classLink RJ7 2 "java/lang/Object", Cond.methodLink RJ7 304 Lib.Math.min.name, Cond.static Lib.Math.min.name, Cond.code Lib.Math.min.name Lib.Math.min.code 2 (some .int), Cond.methodLink RJ7 150 arraycopyName, Cond.native arraycopyName, Cond.static arraycopyName, Cond.initialized "java/lang/System"]
def wsX6_makeBook_r7 : List Cond := [Cond.methodLink RX6 197 yX4_addPlace, Cond.instanceMethod yX4_addPlace, Cond.selects RX4 yX4_addPlace yX4_addPlace, Cond.code yX4_addPlace cX4_addPlace 2 none, Cond.classLink RX4 21 RX0, Cond.instantiable RX0 8, Cond.instanceMethod yX0_init, Cond.code yX0_init cX0_init 1 none, Cond.methodLink RX0 3 objectInit, Cond.fieldLink RX0 9 "ObjectMapper$Entity" "reference" "I", Cond.methodLink RX4 36 yJx4a65c_add_9ea2d, Cond.methodLink RX6 199 yX0_make, Cond.instanceMethod yX0_make, Cond.selects RX0 yX0_make yX0_make, Cond.code yX0_make cX0_make 3 none, Cond.fieldLink RX0 19 "ObjectMapper$Entity" "name" "I"]
def wsX6_makeBook : List Cond := .code yX6_makeBook cX6_makeBook 5 (some .int) :: ((wsX6_makeBook_r1 ++ (wsX6_makeBook_r2 ++ (wsX6_makeBook_r3 ++ (wsX6_makeBook_r4 ++ (wsX6_makeBook_r5 ++ (wsX6_makeBook_r6 ++ wsX6_makeBook_r7)))))) ++ wsX60 ++ wsX40 ++ wsJx4a65c0 ++ wsX00 ++ wsX50 ++ wsX30 ++ (vx_atS RX6 181 "java/lang/IndexOutOfBoundsException" ["java/lang/RuntimeException", "java/lang/Exception"]).filter goodWord ++ (vx_atS RX6 102 "java/lang/IllegalArgumentException" ["java/lang/RuntimeException", "java/lang/Exception"]).filter goodWord ++ (vx_atS RX6 132 "java/lang/IllegalStateException" ["java/lang/RuntimeException", "java/lang/Exception"]).filter goodWord)
def wsX6_checkKind : List Cond := .code yX6_checkKind cX6_checkKind 1 none :: ([.classLink RX6 98 "java/lang/IllegalArgumentException", .initialized "java/lang/IllegalArgumentException"] ++ (vx_atS RX6 102 "java/lang/IllegalArgumentException" ["java/lang/RuntimeException", "java/lang/Exception"]).filter goodWord)
def wsX6_find_r1 : List Cond := [Cond.fieldLink RX6 64 "ObjectMapper$Row" "there" "Z", Cond.fieldLink RX6 70 "ObjectMapper$Entity" "inSession" "Z", Cond.methodLink RX6 33 yX6_sessionAt, Cond.instanceMethod yX6_sessionAt, Cond.selects RX6 yX6_sessionAt yX6_sessionAt, Cond.initialized RX6, Cond.code yX6_sessionAt cX6_sessionAt 2 (some (.object "ObjectMapper$Session")), Cond.classLink RX6 177 "java/lang/IndexOutOfBoundsException", Cond.initialized "java/lang/IndexOutOfBoundsException", Cond.fieldLink RX6 28 "ObjectMapper" "sessions" "[LObjectMapper$Session;", Cond.methodLink RX6 49 yX6_checkKind, Cond.static yX6_checkKind, Cond.code yX6_checkKind cX6_checkKind 1 none, Cond.classLink RX6 98 "java/lang/IllegalArgumentException", Cond.initialized "java/lang/IllegalArgumentException", Cond.methodLink RX6 52 yX6_tableOf, Cond.instanceMethod yX6_tableOf, Cond.selects RX6 yX6_tableOf yX6_tableOf, Cond.code yX6_tableOf cX6_tableOf 2 (some (.object "ObjectMapper$Table")), Cond.fieldLink RX6 10 "ObjectMapper" "authorTable" "LObjectMapper$Table;", Cond.fieldLink RX6 16 "ObjectMapper" "bookTable" "LObjectMapper$Table;", Cond.methodLink RX6 56 yX5_rowAt, Cond.instanceMethod yX5_rowAt, Cond.selects RX5 yX5_rowAt yX5_rowAt]
def wsX6_find_r2 : List Cond := [Cond.initialized RX5, Cond.code yX5_rowAt cX5_rowAt 2 (some (.object "ObjectMapper$Row")), Cond.fieldLink RX5 10 "ObjectMapper$Table" "places" "Ljava/util/ArrayList;", Cond.fieldLink RX5 19 "ObjectMapper$Table" "noRow" "LObjectMapper$Row;", Cond.classLink RX5 16 "ObjectMapper$Row", Cond.methodLink RX5 23 yJx4a65c_size_8abf5, Cond.instanceMethod yJx4a65c_size_8abf5, Cond.selects RJx4a65c yJx4a65c_size_8abf5 yJx4a65c_size_8abf5, Cond.initialized RJx4a65c, Cond.code yJx4a65c_size_8abf5 cJx4a65c_size_8abf5 1 (some .int), Cond.fieldLink RJx4a65c 48 "java/util/ArrayList" "size" "I", Cond.methodLink RX5 31 yJx4a65c_get_915e3, Cond.instanceMethod yJx4a65c_get_915e3, Cond.selects RJx4a65c yJx4a65c_get_915e3 yJx4a65c_get_915e3, Cond.code yJx4a65c_get_915e3 cJx4a65c_get_915e3 2 (some (.object "java/lang/Object")), Cond.methodLink RJx4a65c 118 yJ15_checkIndex_7cf53, Cond.static yJ15_checkIndex_7cf53, Cond.initialized RJ15, Cond.code yJ15_checkIndex_7cf53 cJ15_checkIndex_7cf53 2 (some .int), Cond.methodLink RJ15 105 yJ3_checkIndex_8e157, Cond.static yJ3_checkIndex_8e157, Cond.initialized RJ3, Cond.code yJ3_checkIndex_8e157 cJ3_checkIndex_8e157 3 (some .int), Cond.methodLink RJx4a65c 123 yJx4a65c_elementData_915e3]
def wsX6_find_r3 : List Cond := [Cond.instanceMethod yJx4a65c_elementData_915e3, Cond.selects RJx4a65c yJx4a65c_elementData_915e3 yJx4a65c_elementData_915e3, Cond.code yJx4a65c_elementData_915e3 cJx4a65c_elementData_915e3 2 (some (.object "java/lang/Object")), Cond.fieldLink RJx4a65c 9 "java/util/ArrayList" "elementData" "[Ljava/lang/Object;", Cond.methodLink RX6 60 yX4_entityAt, Cond.instanceMethod yX4_entityAt, Cond.selects RX4 yX4_entityAt yX4_entityAt, Cond.initialized RX4, Cond.code yX4_entityAt cX4_entityAt 4 (some (.object "ObjectMapper$Entity")), Cond.fieldLink RX4 24 "ObjectMapper$Session" "nobody" "LObjectMapper$Entity;", Cond.classLink RX4 21 "ObjectMapper$Entity", Cond.methodLink RX4 28 yX4_listOf, Cond.instanceMethod yX4_listOf, Cond.selects RX4 yX4_listOf yX4_listOf, Cond.code yX4_listOf cX4_listOf 2 (some (.object "java/util/ArrayList")), Cond.fieldLink RX4 12 "ObjectMapper$Session" "authorPlaces" "Ljava/util/ArrayList;", Cond.fieldLink RX4 18 "ObjectMapper$Session" "bookPlaces" "Ljava/util/ArrayList;", Cond.methodLink RX4 32 yJx4a65c_size_8abf5, Cond.methodLink RX4 40 yJx4a65c_get_915e3, Cond.methodLink RX6 75 yX0_load, Cond.instanceMethod yX0_load, Cond.selects RX0 yX0_load yX0_load, Cond.initialized RX0, Cond.code yX0_load cX0_load 2 none]
def wsX6_find_r4 : List Cond := [Cond.fieldLink RX0 22 "ObjectMapper$Row" "name" "I", Cond.fieldLink RX0 25 "ObjectMapper$Row" "reference" "I", Cond.methodLink RX0 26 yX0_make, Cond.instanceMethod yX0_make, Cond.selects RX0 yX0_make yX0_make, Cond.code yX0_make cX0_make 3 none, Cond.fieldLink RX0 15 "ObjectMapper$Entity" "inSession" "Z", Cond.fieldLink RX0 19 "ObjectMapper$Entity" "name" "I", Cond.fieldLink RX0 9 "ObjectMapper$Entity" "reference" "I", Cond.methodLink RX0 30 yX0_takeSnapshot, Cond.instanceMethod yX0_takeSnapshot, Cond.selects RX0 yX0_takeSnapshot yX0_takeSnapshot, Cond.code yX0_takeSnapshot cX0_takeSnapshot 2 none, Cond.fieldLink RX0 34 "ObjectMapper$Entity" "hasSnapshot" "Z", Cond.fieldLink RX0 37 "ObjectMapper$Entity" "snapshotName" "I", Cond.fieldLink RX0 40 "ObjectMapper$Entity" "snapshotReference" "I", Cond.fieldLink RX0 43 "ObjectMapper$Row" "version" "I", Cond.fieldLink RX0 46 "ObjectMapper$Entity" "snapshotVersion" "I", Cond.methodLink RX6 79 yX0_isLive, Cond.instanceMethod yX0_isLive, Cond.selects RX0 yX0_isLive yX0_isLive, Cond.code yX0_isLive cX0_isLive 1 (some .boolean), Cond.fieldLink RX0 49 "ObjectMapper$Entity" "struckOut" "Z"]
def wsX6_find : List Cond := .code yX6_find cX6_find 7 (some .boolean) :: ((wsX6_find_r1 ++ (wsX6_find_r2 ++ (wsX6_find_r3 ++ wsX6_find_r4))) ++ wsX30 ++ wsX00 ++ wsX60 ++ wsX50 ++ wsJx4a65c0 ++ wsX40 ++ (vx_atS RX6 181 "java/lang/IndexOutOfBoundsException" ["java/lang/RuntimeException", "java/lang/Exception"]).filter goodWord ++ (vx_atS RX6 102 "java/lang/IllegalArgumentException" ["java/lang/RuntimeException", "java/lang/Exception"]).filter goodWord)
def wsX6_loadReferring_r1 : List Cond := [Cond.fieldLink RX6 64 "ObjectMapper$Row" "there" "Z", Cond.fieldLink RX6 164 "ObjectMapper$Row" "reference" "I", Cond.fieldLink RX6 70 "ObjectMapper$Entity" "inSession" "Z", Cond.methodLink RX6 52 yX6_tableOf, Cond.instanceMethod yX6_tableOf, Cond.selects RX6 yX6_tableOf yX6_tableOf, Cond.initialized RX6, Cond.code yX6_tableOf cX6_tableOf 2 (some (.object "ObjectMapper$Table")), Cond.fieldLink RX6 10 "ObjectMapper" "authorTable" "LObjectMapper$Table;", Cond.fieldLink RX6 16 "ObjectMapper" "bookTable" "LObjectMapper$Table;", Cond.methodLink RX6 192 yX5_size, Cond.instanceMethod yX5_size, Cond.selects RX5 yX5_size yX5_size, Cond.initialized RX5, Cond.code yX5_size cX5_size 1 (some .int), Cond.fieldLink RX5 10 "ObjectMapper$Table" "places" "Ljava/util/ArrayList;", Cond.methodLink RX5 23 yJx4a65c_size_8abf5, Cond.instanceMethod yJx4a65c_size_8abf5, Cond.selects RJx4a65c yJx4a65c_size_8abf5 yJx4a65c_size_8abf5, Cond.initialized RJx4a65c, Cond.code yJx4a65c_size_8abf5 cJx4a65c_size_8abf5 1 (some .int), Cond.fieldLink RJx4a65c 48 "java/util/ArrayList" "size" "I", Cond.methodLink RX6 56 yX5_rowAt, Cond.instanceMethod yX5_rowAt]
def wsX6_loadReferring_r2 : List Cond := [Cond.selects RX5 yX5_rowAt yX5_rowAt, Cond.code yX5_rowAt cX5_rowAt 2 (some (.object "ObjectMapper$Row")), Cond.fieldLink RX5 19 "ObjectMapper$Table" "noRow" "LObjectMapper$Row;", Cond.classLink RX5 16 "ObjectMapper$Row", Cond.methodLink RX5 31 yJx4a65c_get_915e3, Cond.instanceMethod yJx4a65c_get_915e3, Cond.selects RJx4a65c yJx4a65c_get_915e3 yJx4a65c_get_915e3, Cond.code yJx4a65c_get_915e3 cJx4a65c_get_915e3 2 (some (.object "java/lang/Object")), Cond.methodLink RJx4a65c 118 yJ15_checkIndex_7cf53, Cond.static yJ15_checkIndex_7cf53, Cond.initialized RJ15, Cond.code yJ15_checkIndex_7cf53 cJ15_checkIndex_7cf53 2 (some .int), Cond.methodLink RJ15 105 yJ3_checkIndex_8e157, Cond.static yJ3_checkIndex_8e157, Cond.initialized RJ3, Cond.code yJ3_checkIndex_8e157 cJ3_checkIndex_8e157 3 (some .int), Cond.methodLink RJx4a65c 123 yJx4a65c_elementData_915e3, Cond.instanceMethod yJx4a65c_elementData_915e3, Cond.selects RJx4a65c yJx4a65c_elementData_915e3 yJx4a65c_elementData_915e3, Cond.code yJx4a65c_elementData_915e3 cJx4a65c_elementData_915e3 2 (some (.object "java/lang/Object")), Cond.fieldLink RJx4a65c 9 "java/util/ArrayList" "elementData" "[Ljava/lang/Object;", Cond.methodLink RX6 60 yX4_entityAt, Cond.instanceMethod yX4_entityAt, Cond.selects RX4 yX4_entityAt yX4_entityAt]
def wsX6_loadReferring_r3 : List Cond := [Cond.initialized RX4, Cond.code yX4_entityAt cX4_entityAt 4 (some (.object "ObjectMapper$Entity")), Cond.fieldLink RX4 24 "ObjectMapper$Session" "nobody" "LObjectMapper$Entity;", Cond.classLink RX4 21 "ObjectMapper$Entity", Cond.methodLink RX4 28 yX4_listOf, Cond.instanceMethod yX4_listOf, Cond.selects RX4 yX4_listOf yX4_listOf, Cond.code yX4_listOf cX4_listOf 2 (some (.object "java/util/ArrayList")), Cond.fieldLink RX4 12 "ObjectMapper$Session" "authorPlaces" "Ljava/util/ArrayList;", Cond.fieldLink RX4 18 "ObjectMapper$Session" "bookPlaces" "Ljava/util/ArrayList;", Cond.methodLink RX4 32 yJx4a65c_size_8abf5, Cond.methodLink RX4 40 yJx4a65c_get_915e3, Cond.methodLink RX6 75 yX0_load, Cond.instanceMethod yX0_load, Cond.selects RX0 yX0_load yX0_load, Cond.initialized RX0, Cond.code yX0_load cX0_load 2 none, Cond.fieldLink RX0 22 "ObjectMapper$Row" "name" "I", Cond.fieldLink RX0 25 "ObjectMapper$Row" "reference" "I", Cond.methodLink RX0 26 yX0_make, Cond.instanceMethod yX0_make, Cond.selects RX0 yX0_make yX0_make, Cond.code yX0_make cX0_make 3 none, Cond.fieldLink RX0 15 "ObjectMapper$Entity" "inSession" "Z"]
def wsX6_loadReferring_r4 : List Cond := [Cond.fieldLink RX0 19 "ObjectMapper$Entity" "name" "I", Cond.fieldLink RX0 9 "ObjectMapper$Entity" "reference" "I", Cond.methodLink RX0 30 yX0_takeSnapshot, Cond.instanceMethod yX0_takeSnapshot, Cond.selects RX0 yX0_takeSnapshot yX0_takeSnapshot, Cond.code yX0_takeSnapshot cX0_takeSnapshot 2 none, Cond.fieldLink RX0 34 "ObjectMapper$Entity" "hasSnapshot" "Z", Cond.fieldLink RX0 37 "ObjectMapper$Entity" "snapshotName" "I", Cond.fieldLink RX0 40 "ObjectMapper$Entity" "snapshotReference" "I", Cond.fieldLink RX0 43 "ObjectMapper$Row" "version" "I", Cond.fieldLink RX0 46 "ObjectMapper$Entity" "snapshotVersion" "I"]
def wsX6_loadReferring : List Cond := .code yX6_loadReferring cX6_loadReferring 8 none :: ((wsX6_loadReferring_r1 ++ (wsX6_loadReferring_r2 ++ (wsX6_loadReferring_r3 ++ wsX6_loadReferring_r4))) ++ wsX30 ++ wsX00 ++ wsX60 ++ wsX50 ++ wsJx4a65c0 ++ wsX40)
def wsX6_books_r1 : List Cond := [Cond.methodLink RX6 33 yX6_sessionAt, Cond.instanceMethod yX6_sessionAt, Cond.selects RX6 yX6_sessionAt yX6_sessionAt, Cond.initialized RX6, Cond.code yX6_sessionAt cX6_sessionAt 2 (some (.object "ObjectMapper$Session")), Cond.classLink RX6 177 "java/lang/IndexOutOfBoundsException", Cond.initialized "java/lang/IndexOutOfBoundsException", Cond.fieldLink RX6 28 "ObjectMapper" "sessions" "[LObjectMapper$Session;", Cond.methodLink RX6 45 yX6_checkLive, Cond.static yX6_checkLive, Cond.code yX6_checkLive cX6_checkLive 3 none, Cond.classLink RX6 128 "java/lang/IllegalStateException", Cond.initialized "java/lang/IllegalStateException", Cond.methodLink RX6 60 yX4_entityAt, Cond.instanceMethod yX4_entityAt, Cond.selects RX4 yX4_entityAt yX4_entityAt, Cond.initialized RX4, Cond.code yX4_entityAt cX4_entityAt 4 (some (.object "ObjectMapper$Entity")), Cond.fieldLink RX4 24 "ObjectMapper$Session" "nobody" "LObjectMapper$Entity;", Cond.classLink RX4 21 "ObjectMapper$Entity", Cond.methodLink RX4 28 yX4_listOf, Cond.instanceMethod yX4_listOf, Cond.selects RX4 yX4_listOf yX4_listOf, Cond.code yX4_listOf cX4_listOf 2 (some (.object "java/util/ArrayList"))]
def wsX6_books_r2 : List Cond := [Cond.fieldLink RX4 12 "ObjectMapper$Session" "authorPlaces" "Ljava/util/ArrayList;", Cond.fieldLink RX4 18 "ObjectMapper$Session" "bookPlaces" "Ljava/util/ArrayList;", Cond.methodLink RX4 32 yJx4a65c_size_8abf5, Cond.instanceMethod yJx4a65c_size_8abf5, Cond.selects RJx4a65c yJx4a65c_size_8abf5 yJx4a65c_size_8abf5, Cond.initialized RJx4a65c, Cond.code yJx4a65c_size_8abf5 cJx4a65c_size_8abf5 1 (some .int), Cond.fieldLink RJx4a65c 48 "java/util/ArrayList" "size" "I", Cond.methodLink RX4 40 yJx4a65c_get_915e3, Cond.instanceMethod yJx4a65c_get_915e3, Cond.selects RJx4a65c yJx4a65c_get_915e3 yJx4a65c_get_915e3, Cond.code yJx4a65c_get_915e3 cJx4a65c_get_915e3 2 (some (.object "java/lang/Object")), Cond.methodLink RJx4a65c 118 yJ15_checkIndex_7cf53, Cond.static yJ15_checkIndex_7cf53, Cond.initialized RJ15, Cond.code yJ15_checkIndex_7cf53 cJ15_checkIndex_7cf53 2 (some .int), Cond.methodLink RJ15 105 yJ3_checkIndex_8e157, Cond.static yJ3_checkIndex_8e157, Cond.initialized RJ3, Cond.code yJ3_checkIndex_8e157 cJ3_checkIndex_8e157 3 (some .int), Cond.methodLink RJx4a65c 123 yJx4a65c_elementData_915e3, Cond.instanceMethod yJx4a65c_elementData_915e3, Cond.selects RJx4a65c yJx4a65c_elementData_915e3 yJx4a65c_elementData_915e3, Cond.code yJx4a65c_elementData_915e3 cJx4a65c_elementData_915e3 2 (some (.object "java/lang/Object"))]
def wsX6_books_r3 : List Cond := [Cond.fieldLink RJx4a65c 9 "java/util/ArrayList" "elementData" "[Ljava/lang/Object;", Cond.methodLink RX6 79 yX0_isLive, Cond.instanceMethod yX0_isLive, Cond.selects RX0 yX0_isLive yX0_isLive, Cond.initialized RX0, Cond.code yX0_isLive cX0_isLive 1 (some .boolean), Cond.fieldLink RX0 15 "ObjectMapper$Entity" "inSession" "Z", Cond.fieldLink RX0 49 "ObjectMapper$Entity" "struckOut" "Z", Cond.methodLink RX6 83 yX6_loadReferring, Cond.instanceMethod yX6_loadReferring, Cond.selects RX6 yX6_loadReferring yX6_loadReferring, Cond.code yX6_loadReferring cX6_loadReferring 8 none, Cond.fieldLink RX6 64 "ObjectMapper$Row" "there" "Z", Cond.fieldLink RX6 164 "ObjectMapper$Row" "reference" "I", Cond.fieldLink RX6 70 "ObjectMapper$Entity" "inSession" "Z", Cond.methodLink RX6 52 yX6_tableOf, Cond.instanceMethod yX6_tableOf, Cond.selects RX6 yX6_tableOf yX6_tableOf, Cond.code yX6_tableOf cX6_tableOf 2 (some (.object "ObjectMapper$Table")), Cond.fieldLink RX6 10 "ObjectMapper" "authorTable" "LObjectMapper$Table;", Cond.fieldLink RX6 16 "ObjectMapper" "bookTable" "LObjectMapper$Table;", Cond.methodLink RX6 192 yX5_size, Cond.instanceMethod yX5_size, Cond.selects RX5 yX5_size yX5_size]
def wsX6_books_r4 : List Cond := [Cond.initialized RX5, Cond.code yX5_size cX5_size 1 (some .int), Cond.fieldLink RX5 10 "ObjectMapper$Table" "places" "Ljava/util/ArrayList;", Cond.methodLink RX5 23 yJx4a65c_size_8abf5, Cond.methodLink RX6 56 yX5_rowAt, Cond.instanceMethod yX5_rowAt, Cond.selects RX5 yX5_rowAt yX5_rowAt, Cond.code yX5_rowAt cX5_rowAt 2 (some (.object "ObjectMapper$Row")), Cond.fieldLink RX5 19 "ObjectMapper$Table" "noRow" "LObjectMapper$Row;", Cond.classLink RX5 16 "ObjectMapper$Row", Cond.methodLink RX5 31 yJx4a65c_get_915e3, Cond.methodLink RX6 75 yX0_load, Cond.instanceMethod yX0_load, Cond.selects RX0 yX0_load yX0_load, Cond.code yX0_load cX0_load 2 none, Cond.fieldLink RX0 22 "ObjectMapper$Row" "name" "I", Cond.fieldLink RX0 25 "ObjectMapper$Row" "reference" "I", Cond.methodLink RX0 26 yX0_make, Cond.instanceMethod yX0_make, Cond.selects RX0 yX0_make yX0_make, Cond.code yX0_make cX0_make 3 none, Cond.fieldLink RX0 19 "ObjectMapper$Entity" "name" "I", Cond.fieldLink RX0 9 "ObjectMapper$Entity" "reference" "I", Cond.methodLink RX0 30 yX0_takeSnapshot]
def wsX6_books_r5 : List Cond := [Cond.instanceMethod yX0_takeSnapshot, Cond.selects RX0 yX0_takeSnapshot yX0_takeSnapshot, Cond.code yX0_takeSnapshot cX0_takeSnapshot 2 none, Cond.fieldLink RX0 34 "ObjectMapper$Entity" "hasSnapshot" "Z", Cond.fieldLink RX0 37 "ObjectMapper$Entity" "snapshotName" "I", Cond.fieldLink RX0 40 "ObjectMapper$Entity" "snapshotReference" "I", Cond.fieldLink RX0 43 "ObjectMapper$Row" "version" "I", Cond.fieldLink RX0 46 "ObjectMapper$Entity" "snapshotVersion" "I", Cond.methodLink RX6 86 yX4_sizeOf, Cond.instanceMethod yX4_sizeOf, Cond.selects RX4 yX4_sizeOf yX4_sizeOf, Cond.code yX4_sizeOf cX4_sizeOf 2 (some .int), Cond.methodLink RX6 90 yX0_isLiveAndRefersTo, Cond.instanceMethod yX0_isLiveAndRefersTo, Cond.selects RX0 yX0_isLiveAndRefersTo yX0_isLiveAndRefersTo, Cond.code yX0_isLiveAndRefersTo cX0_isLiveAndRefersTo 2 (some .boolean), Cond.methodLink RX0 55 yX0_isLive]
def wsX6_books : List Cond := .code yX6_books cX6_books 6 (some .int) :: ((wsX6_books_r1 ++ (wsX6_books_r2 ++ (wsX6_books_r3 ++ (wsX6_books_r4 ++ wsX6_books_r5)))) ++ wsX60 ++ wsX40 ++ wsJx4a65c0 ++ wsX00 ++ wsX30 ++ wsX50 ++ (vx_atS RX6 181 "java/lang/IndexOutOfBoundsException" ["java/lang/RuntimeException", "java/lang/Exception"]).filter goodWord ++ (vx_atS RX6 132 "java/lang/IllegalStateException" ["java/lang/RuntimeException", "java/lang/Exception"]).filter goodWord)
def wsX6_setName_r1 : List Cond := [Cond.fieldLink RX6 94 "ObjectMapper$Entity" "name" "I", Cond.methodLink RX6 33 yX6_sessionAt, Cond.instanceMethod yX6_sessionAt, Cond.selects RX6 yX6_sessionAt yX6_sessionAt, Cond.initialized RX6, Cond.code yX6_sessionAt cX6_sessionAt 2 (some (.object "ObjectMapper$Session")), Cond.classLink RX6 177 "java/lang/IndexOutOfBoundsException", Cond.initialized "java/lang/IndexOutOfBoundsException", Cond.fieldLink RX6 28 "ObjectMapper" "sessions" "[LObjectMapper$Session;", Cond.methodLink RX6 49 yX6_checkKind, Cond.static yX6_checkKind, Cond.code yX6_checkKind cX6_checkKind 1 none, Cond.classLink RX6 98 "java/lang/IllegalArgumentException", Cond.initialized "java/lang/IllegalArgumentException", Cond.methodLink RX6 37 yX6_checkRangeOfName, Cond.static yX6_checkRangeOfName, Cond.code yX6_checkRangeOfName cX6_checkRangeOfName 1 none, Cond.methodLink RX6 45 yX6_checkLive, Cond.static yX6_checkLive, Cond.code yX6_checkLive cX6_checkLive 3 none, Cond.classLink RX6 128 "java/lang/IllegalStateException", Cond.initialized "java/lang/IllegalStateException", Cond.methodLink RX6 60 yX4_entityAt, Cond.instanceMethod yX4_entityAt]
def wsX6_setName_r2 : List Cond := [Cond.selects RX4 yX4_entityAt yX4_entityAt, Cond.initialized RX4, Cond.code yX4_entityAt cX4_entityAt 4 (some (.object "ObjectMapper$Entity")), Cond.fieldLink RX4 24 "ObjectMapper$Session" "nobody" "LObjectMapper$Entity;", Cond.classLink RX4 21 "ObjectMapper$Entity", Cond.methodLink RX4 28 yX4_listOf, Cond.instanceMethod yX4_listOf, Cond.selects RX4 yX4_listOf yX4_listOf, Cond.code yX4_listOf cX4_listOf 2 (some (.object "java/util/ArrayList")), Cond.fieldLink RX4 12 "ObjectMapper$Session" "authorPlaces" "Ljava/util/ArrayList;", Cond.fieldLink RX4 18 "ObjectMapper$Session" "bookPlaces" "Ljava/util/ArrayList;", Cond.methodLink RX4 32 yJx4a65c_size_8abf5, Cond.instanceMethod yJx4a65c_size_8abf5, Cond.selects RJx4a65c yJx4a65c_size_8abf5 yJx4a65c_size_8abf5, Cond.initialized RJx4a65c, Cond.code yJx4a65c_size_8abf5 cJx4a65c_size_8abf5 1 (some .int), Cond.fieldLink RJx4a65c 48 "java/util/ArrayList" "size" "I", Cond.methodLink RX4 40 yJx4a65c_get_915e3, Cond.instanceMethod yJx4a65c_get_915e3, Cond.selects RJx4a65c yJx4a65c_get_915e3 yJx4a65c_get_915e3, Cond.code yJx4a65c_get_915e3 cJx4a65c_get_915e3 2 (some (.object "java/lang/Object")), Cond.methodLink RJx4a65c 118 yJ15_checkIndex_7cf53, Cond.static yJ15_checkIndex_7cf53, Cond.initialized RJ15]
def wsX6_setName_r3 : List Cond := [Cond.code yJ15_checkIndex_7cf53 cJ15_checkIndex_7cf53 2 (some .int), Cond.methodLink RJ15 105 yJ3_checkIndex_8e157, Cond.static yJ3_checkIndex_8e157, Cond.initialized RJ3, Cond.code yJ3_checkIndex_8e157 cJ3_checkIndex_8e157 3 (some .int), Cond.methodLink RJx4a65c 123 yJx4a65c_elementData_915e3, Cond.instanceMethod yJx4a65c_elementData_915e3, Cond.selects RJx4a65c yJx4a65c_elementData_915e3 yJx4a65c_elementData_915e3, Cond.code yJx4a65c_elementData_915e3 cJx4a65c_elementData_915e3 2 (some (.object "java/lang/Object")), Cond.fieldLink RJx4a65c 9 "java/util/ArrayList" "elementData" "[Ljava/lang/Object;", Cond.methodLink RX6 79 yX0_isLive, Cond.instanceMethod yX0_isLive, Cond.selects RX0 yX0_isLive yX0_isLive, Cond.initialized RX0, Cond.code yX0_isLive cX0_isLive 1 (some .boolean), Cond.fieldLink RX0 15 "ObjectMapper$Entity" "inSession" "Z", Cond.fieldLink RX0 49 "ObjectMapper$Entity" "struckOut" "Z"]
def wsX6_setName : List Cond := .code yX6_setName cX6_setName 6 none :: ((wsX6_setName_r1 ++ (wsX6_setName_r2 ++ wsX6_setName_r3)) ++ wsX00 ++ wsX60 ++ wsX40 ++ wsJx4a65c0 ++ (vx_atS RX6 181 "java/lang/IndexOutOfBoundsException" ["java/lang/RuntimeException", "java/lang/Exception"]).filter goodWord ++ (vx_atS RX6 102 "java/lang/IllegalArgumentException" ["java/lang/RuntimeException", "java/lang/Exception"]).filter goodWord ++ (vx_atS RX6 132 "java/lang/IllegalStateException" ["java/lang/RuntimeException", "java/lang/Exception"]).filter goodWord)
def wsX6_setReference_r1 : List Cond := [Cond.classLink RX6 98 "java/lang/IllegalArgumentException", Cond.initialized "java/lang/IllegalArgumentException", Cond.fieldLink RX6 108 "ObjectMapper$Entity" "reference" "I", Cond.methodLink RX6 33 yX6_sessionAt, Cond.instanceMethod yX6_sessionAt, Cond.selects RX6 yX6_sessionAt yX6_sessionAt, Cond.initialized RX6, Cond.code yX6_sessionAt cX6_sessionAt 2 (some (.object "ObjectMapper$Session")), Cond.classLink RX6 177 "java/lang/IndexOutOfBoundsException", Cond.initialized "java/lang/IndexOutOfBoundsException", Cond.fieldLink RX6 28 "ObjectMapper" "sessions" "[LObjectMapper$Session;", Cond.methodLink RX6 49 yX6_checkKind, Cond.static yX6_checkKind, Cond.code yX6_checkKind cX6_checkKind 1 none, Cond.methodLink RX6 45 yX6_checkLive, Cond.static yX6_checkLive, Cond.code yX6_checkLive cX6_checkLive 3 none, Cond.classLink RX6 128 "java/lang/IllegalStateException", Cond.initialized "java/lang/IllegalStateException", Cond.methodLink RX6 60 yX4_entityAt, Cond.instanceMethod yX4_entityAt, Cond.selects RX4 yX4_entityAt yX4_entityAt, Cond.initialized RX4, Cond.code yX4_entityAt cX4_entityAt 4 (some (.object "ObjectMapper$Entity"))]
def wsX6_setReference_r2 : List Cond := [Cond.fieldLink RX4 24 "ObjectMapper$Session" "nobody" "LObjectMapper$Entity;", Cond.classLink RX4 21 "ObjectMapper$Entity", Cond.methodLink RX4 28 yX4_listOf, Cond.instanceMethod yX4_listOf, Cond.selects RX4 yX4_listOf yX4_listOf, Cond.code yX4_listOf cX4_listOf 2 (some (.object "java/util/ArrayList")), Cond.fieldLink RX4 12 "ObjectMapper$Session" "authorPlaces" "Ljava/util/ArrayList;", Cond.fieldLink RX4 18 "ObjectMapper$Session" "bookPlaces" "Ljava/util/ArrayList;", Cond.methodLink RX4 32 yJx4a65c_size_8abf5, Cond.instanceMethod yJx4a65c_size_8abf5, Cond.selects RJx4a65c yJx4a65c_size_8abf5 yJx4a65c_size_8abf5, Cond.initialized RJx4a65c, Cond.code yJx4a65c_size_8abf5 cJx4a65c_size_8abf5 1 (some .int), Cond.fieldLink RJx4a65c 48 "java/util/ArrayList" "size" "I", Cond.methodLink RX4 40 yJx4a65c_get_915e3, Cond.instanceMethod yJx4a65c_get_915e3, Cond.selects RJx4a65c yJx4a65c_get_915e3 yJx4a65c_get_915e3, Cond.code yJx4a65c_get_915e3 cJx4a65c_get_915e3 2 (some (.object "java/lang/Object")), Cond.methodLink RJx4a65c 118 yJ15_checkIndex_7cf53, Cond.static yJ15_checkIndex_7cf53, Cond.initialized RJ15, Cond.code yJ15_checkIndex_7cf53 cJ15_checkIndex_7cf53 2 (some .int), Cond.methodLink RJ15 105 yJ3_checkIndex_8e157, Cond.static yJ3_checkIndex_8e157]
def wsX6_setReference_r3 : List Cond := [Cond.initialized RJ3, Cond.code yJ3_checkIndex_8e157 cJ3_checkIndex_8e157 3 (some .int), Cond.methodLink RJx4a65c 123 yJx4a65c_elementData_915e3, Cond.instanceMethod yJx4a65c_elementData_915e3, Cond.selects RJx4a65c yJx4a65c_elementData_915e3 yJx4a65c_elementData_915e3, Cond.code yJx4a65c_elementData_915e3 cJx4a65c_elementData_915e3 2 (some (.object "java/lang/Object")), Cond.fieldLink RJx4a65c 9 "java/util/ArrayList" "elementData" "[Ljava/lang/Object;", Cond.methodLink RX6 79 yX0_isLive, Cond.instanceMethod yX0_isLive, Cond.selects RX0 yX0_isLive yX0_isLive, Cond.initialized RX0, Cond.code yX0_isLive cX0_isLive 1 (some .boolean), Cond.fieldLink RX0 15 "ObjectMapper$Entity" "inSession" "Z", Cond.fieldLink RX0 49 "ObjectMapper$Entity" "struckOut" "Z", Cond.methodLink RX6 105 yX6_otherKind, Cond.static yX6_otherKind, Cond.code yX6_otherKind cX6_otherKind 1 (some .int)]
def wsX6_setReference : List Cond := .code yX6_setReference cX6_setReference 6 none :: ((wsX6_setReference_r1 ++ (wsX6_setReference_r2 ++ wsX6_setReference_r3)) ++ wsX00 ++ wsX60 ++ wsX40 ++ wsJx4a65c0 ++ (vx_atS RX6 102 "java/lang/IllegalArgumentException" ["java/lang/RuntimeException", "java/lang/Exception"]).filter goodWord ++ (vx_atS RX6 181 "java/lang/IndexOutOfBoundsException" ["java/lang/RuntimeException", "java/lang/Exception"]).filter goodWord ++ (vx_atS RX6 132 "java/lang/IllegalStateException" ["java/lang/RuntimeException", "java/lang/Exception"]).filter goodWord)
def wsX6_removeBook_r1 : List Cond := [Cond.fieldLink RX6 108 "ObjectMapper$Entity" "reference" "I", Cond.methodLink RX6 60 yX4_entityAt, Cond.instanceMethod yX4_entityAt, Cond.selects RX4 yX4_entityAt yX4_entityAt, Cond.initialized RX4, Cond.code yX4_entityAt cX4_entityAt 4 (some (.object "ObjectMapper$Entity")), Cond.fieldLink RX4 24 "ObjectMapper$Session" "nobody" "LObjectMapper$Entity;", Cond.classLink RX4 21 "ObjectMapper$Entity", Cond.methodLink RX4 28 yX4_listOf, Cond.instanceMethod yX4_listOf, Cond.selects RX4 yX4_listOf yX4_listOf, Cond.code yX4_listOf cX4_listOf 2 (some (.object "java/util/ArrayList")), Cond.fieldLink RX4 12 "ObjectMapper$Session" "authorPlaces" "Ljava/util/ArrayList;", Cond.fieldLink RX4 18 "ObjectMapper$Session" "bookPlaces" "Ljava/util/ArrayList;", Cond.methodLink RX4 32 yJx4a65c_size_8abf5, Cond.instanceMethod yJx4a65c_size_8abf5, Cond.selects RJx4a65c yJx4a65c_size_8abf5 yJx4a65c_size_8abf5, Cond.initialized RJx4a65c, Cond.code yJx4a65c_size_8abf5 cJx4a65c_size_8abf5 1 (some .int), Cond.fieldLink RJx4a65c 48 "java/util/ArrayList" "size" "I", Cond.methodLink RX4 40 yJx4a65c_get_915e3, Cond.instanceMethod yJx4a65c_get_915e3, Cond.selects RJx4a65c yJx4a65c_get_915e3 yJx4a65c_get_915e3, Cond.code yJx4a65c_get_915e3 cJx4a65c_get_915e3 2 (some (.object "java/lang/Object"))]
def wsX6_removeBook_r2 : List Cond := [Cond.methodLink RJx4a65c 118 yJ15_checkIndex_7cf53, Cond.static yJ15_checkIndex_7cf53, Cond.initialized RJ15, Cond.code yJ15_checkIndex_7cf53 cJ15_checkIndex_7cf53 2 (some .int), Cond.methodLink RJ15 105 yJ3_checkIndex_8e157, Cond.static yJ3_checkIndex_8e157, Cond.initialized RJ3, Cond.code yJ3_checkIndex_8e157 cJ3_checkIndex_8e157 3 (some .int), Cond.methodLink RJx4a65c 123 yJx4a65c_elementData_915e3, Cond.instanceMethod yJx4a65c_elementData_915e3, Cond.selects RJx4a65c yJx4a65c_elementData_915e3 yJx4a65c_elementData_915e3, Cond.code yJx4a65c_elementData_915e3 cJx4a65c_elementData_915e3 2 (some (.object "java/lang/Object")), Cond.fieldLink RJx4a65c 9 "java/util/ArrayList" "elementData" "[Ljava/lang/Object;", Cond.methodLink RX6 203 yX0_strikeOut, Cond.instanceMethod yX0_strikeOut, Cond.selects RX0 yX0_strikeOut yX0_strikeOut, Cond.initialized RX0, Cond.code yX0_strikeOut cX0_strikeOut 1 none, Cond.fieldLink RX0 34 "ObjectMapper$Entity" "hasSnapshot" "Z", Cond.fieldLink RX0 49 "ObjectMapper$Entity" "struckOut" "Z", Cond.methodLink RX0 52 yX0_forget, Cond.instanceMethod yX0_forget, Cond.selects RX0 yX0_forget yX0_forget, Cond.code yX0_forget cX0_forget 1 none]
def wsX6_removeBook_r3 : List Cond := [Cond.fieldLink RX0 15 "ObjectMapper$Entity" "inSession" "Z", Cond.methodLink RX6 83 yX6_loadReferring, Cond.instanceMethod yX6_loadReferring, Cond.selects RX6 yX6_loadReferring yX6_loadReferring, Cond.initialized RX6, Cond.code yX6_loadReferring cX6_loadReferring 8 none, Cond.fieldLink RX6 64 "ObjectMapper$Row" "there" "Z", Cond.fieldLink RX6 164 "ObjectMapper$Row" "reference" "I", Cond.fieldLink RX6 70 "ObjectMapper$Entity" "inSession" "Z", Cond.methodLink RX6 52 yX6_tableOf, Cond.instanceMethod yX6_tableOf, Cond.selects RX6 yX6_tableOf yX6_tableOf, Cond.code yX6_tableOf cX6_tableOf 2 (some (.object "ObjectMapper$Table")), Cond.fieldLink RX6 10 "ObjectMapper" "authorTable" "LObjectMapper$Table;", Cond.fieldLink RX6 16 "ObjectMapper" "bookTable" "LObjectMapper$Table;", Cond.methodLink RX6 192 yX5_size, Cond.instanceMethod yX5_size, Cond.selects RX5 yX5_size yX5_size, Cond.initialized RX5, Cond.code yX5_size cX5_size 1 (some .int), Cond.fieldLink RX5 10 "ObjectMapper$Table" "places" "Ljava/util/ArrayList;", Cond.methodLink RX5 23 yJx4a65c_size_8abf5, Cond.methodLink RX6 56 yX5_rowAt, Cond.instanceMethod yX5_rowAt]
def wsX6_removeBook_r4 : List Cond := [Cond.selects RX5 yX5_rowAt yX5_rowAt, Cond.code yX5_rowAt cX5_rowAt 2 (some (.object "ObjectMapper$Row")), Cond.fieldLink RX5 19 "ObjectMapper$Table" "noRow" "LObjectMapper$Row;", Cond.classLink RX5 16 "ObjectMapper$Row", Cond.methodLink RX5 31 yJx4a65c_get_915e3, Cond.methodLink RX6 75 yX0_load, Cond.instanceMethod yX0_load, Cond.selects RX0 yX0_load yX0_load, Cond.code yX0_load cX0_load 2 none, Cond.fieldLink RX0 22 "ObjectMapper$Row" "name" "I", Cond.fieldLink RX0 25 "ObjectMapper$Row" "reference" "I", Cond.methodLink RX0 26 yX0_make, Cond.instanceMethod yX0_make, Cond.selects RX0 yX0_make yX0_make, Cond.code yX0_make cX0_make 3 none, Cond.fieldLink RX0 19 "ObjectMapper$Entity" "name" "I", Cond.fieldLink RX0 9 "ObjectMapper$Entity" "reference" "I", Cond.methodLink RX0 30 yX0_takeSnapshot, Cond.instanceMethod yX0_takeSnapshot, Cond.selects RX0 yX0_takeSnapshot yX0_takeSnapshot, Cond.code yX0_takeSnapshot cX0_takeSnapshot 2 none, Cond.fieldLink RX0 37 "ObjectMapper$Entity" "snapshotName" "I", Cond.fieldLink RX0 40 "ObjectMapper$Entity" "snapshotReference" "I", Cond.fieldLink RX0 43 "ObjectMapper$Row" "version" "I"]
def wsX6_removeBook_r5 : List Cond := [Cond.fieldLink RX0 46 "ObjectMapper$Entity" "snapshotVersion" "I", Cond.methodLink RX6 86 yX4_sizeOf, Cond.instanceMethod yX4_sizeOf, Cond.selects RX4 yX4_sizeOf yX4_sizeOf, Cond.code yX4_sizeOf cX4_sizeOf 2 (some .int), Cond.methodLink RX6 90 yX0_isLiveAndRefersTo, Cond.instanceMethod yX0_isLiveAndRefersTo, Cond.selects RX0 yX0_isLiveAndRefersTo yX0_isLiveAndRefersTo, Cond.code yX0_isLiveAndRefersTo cX0_isLiveAndRefersTo 2 (some .boolean), Cond.methodLink RX0 55 yX0_isLive, Cond.instanceMethod yX0_isLive, Cond.selects RX0 yX0_isLive yX0_isLive, Cond.code yX0_isLive cX0_isLive 1 (some .boolean)]
def wsX6_removeBook : List Cond := .code yX6_removeBook cX6_removeBook 5 none :: ((wsX6_removeBook_r1 ++ (wsX6_removeBook_r2 ++ (wsX6_removeBook_r3 ++ (wsX6_removeBook_r4 ++ wsX6_removeBook_r5)))) ++ wsX00 ++ wsX40 ++ wsJx4a65c0 ++ wsX30 ++ wsX60 ++ wsX50)
def wsX6_removeAuthor_r1 : List Cond := [Cond.methodLink RX6 60 yX4_entityAt, Cond.instanceMethod yX4_entityAt, Cond.selects RX4 yX4_entityAt yX4_entityAt, Cond.initialized RX4, Cond.code yX4_entityAt cX4_entityAt 4 (some (.object "ObjectMapper$Entity")), Cond.fieldLink RX4 24 "ObjectMapper$Session" "nobody" "LObjectMapper$Entity;", Cond.classLink RX4 21 "ObjectMapper$Entity", Cond.methodLink RX4 28 yX4_listOf, Cond.instanceMethod yX4_listOf, Cond.selects RX4 yX4_listOf yX4_listOf, Cond.code yX4_listOf cX4_listOf 2 (some (.object "java/util/ArrayList")), Cond.fieldLink RX4 12 "ObjectMapper$Session" "authorPlaces" "Ljava/util/ArrayList;", Cond.fieldLink RX4 18 "ObjectMapper$Session" "bookPlaces" "Ljava/util/ArrayList;", Cond.methodLink RX4 32 yJx4a65c_size_8abf5, Cond.instanceMethod yJx4a65c_size_8abf5, Cond.selects RJx4a65c yJx4a65c_size_8abf5 yJx4a65c_size_8abf5, Cond.initialized RJx4a65c, Cond.code yJx4a65c_size_8abf5 cJx4a65c_size_8abf5 1 (some .int), Cond.fieldLink RJx4a65c 48 "java/util/ArrayList" "size" "I", Cond.methodLink RX4 40 yJx4a65c_get_915e3, Cond.instanceMethod yJx4a65c_get_915e3, Cond.selects RJx4a65c yJx4a65c_get_915e3 yJx4a65c_get_915e3, Cond.code yJx4a65c_get_915e3 cJx4a65c_get_915e3 2 (some (.object "java/lang/Object")), Cond.methodLink RJx4a65c 118 yJ15_checkIndex_7cf53]
def wsX6_removeAuthor_r2 : List Cond := [Cond.static yJ15_checkIndex_7cf53, Cond.initialized RJ15, Cond.code yJ15_checkIndex_7cf53 cJ15_checkIndex_7cf53 2 (some .int), Cond.methodLink RJ15 105 yJ3_checkIndex_8e157, Cond.static yJ3_checkIndex_8e157, Cond.initialized RJ3, Cond.code yJ3_checkIndex_8e157 cJ3_checkIndex_8e157 3 (some .int), Cond.methodLink RJx4a65c 123 yJx4a65c_elementData_915e3, Cond.instanceMethod yJx4a65c_elementData_915e3, Cond.selects RJx4a65c yJx4a65c_elementData_915e3 yJx4a65c_elementData_915e3, Cond.code yJx4a65c_elementData_915e3 cJx4a65c_elementData_915e3 2 (some (.object "java/lang/Object")), Cond.fieldLink RJx4a65c 9 "java/util/ArrayList" "elementData" "[Ljava/lang/Object;", Cond.methodLink RX6 203 yX0_strikeOut, Cond.instanceMethod yX0_strikeOut, Cond.selects RX0 yX0_strikeOut yX0_strikeOut, Cond.initialized RX0, Cond.code yX0_strikeOut cX0_strikeOut 1 none, Cond.fieldLink RX0 34 "ObjectMapper$Entity" "hasSnapshot" "Z", Cond.fieldLink RX0 49 "ObjectMapper$Entity" "struckOut" "Z", Cond.methodLink RX0 52 yX0_forget, Cond.instanceMethod yX0_forget, Cond.selects RX0 yX0_forget yX0_forget, Cond.code yX0_forget cX0_forget 1 none, Cond.fieldLink RX0 15 "ObjectMapper$Entity" "inSession" "Z"]
def wsX6_removeAuthor_r3 : List Cond := [Cond.methodLink RX6 83 yX6_loadReferring, Cond.instanceMethod yX6_loadReferring, Cond.selects RX6 yX6_loadReferring yX6_loadReferring, Cond.initialized RX6, Cond.code yX6_loadReferring cX6_loadReferring 8 none, Cond.fieldLink RX6 64 "ObjectMapper$Row" "there" "Z", Cond.fieldLink RX6 164 "ObjectMapper$Row" "reference" "I", Cond.fieldLink RX6 70 "ObjectMapper$Entity" "inSession" "Z", Cond.methodLink RX6 52 yX6_tableOf, Cond.instanceMethod yX6_tableOf, Cond.selects RX6 yX6_tableOf yX6_tableOf, Cond.code yX6_tableOf cX6_tableOf 2 (some (.object "ObjectMapper$Table")), Cond.fieldLink RX6 10 "ObjectMapper" "authorTable" "LObjectMapper$Table;", Cond.fieldLink RX6 16 "ObjectMapper" "bookTable" "LObjectMapper$Table;", Cond.methodLink RX6 192 yX5_size, Cond.instanceMethod yX5_size, Cond.selects RX5 yX5_size yX5_size, Cond.initialized RX5, Cond.code yX5_size cX5_size 1 (some .int), Cond.fieldLink RX5 10 "ObjectMapper$Table" "places" "Ljava/util/ArrayList;", Cond.methodLink RX5 23 yJx4a65c_size_8abf5, Cond.methodLink RX6 56 yX5_rowAt, Cond.instanceMethod yX5_rowAt, Cond.selects RX5 yX5_rowAt yX5_rowAt]
def wsX6_removeAuthor_r4 : List Cond := [Cond.code yX5_rowAt cX5_rowAt 2 (some (.object "ObjectMapper$Row")), Cond.fieldLink RX5 19 "ObjectMapper$Table" "noRow" "LObjectMapper$Row;", Cond.classLink RX5 16 "ObjectMapper$Row", Cond.methodLink RX5 31 yJx4a65c_get_915e3, Cond.methodLink RX6 75 yX0_load, Cond.instanceMethod yX0_load, Cond.selects RX0 yX0_load yX0_load, Cond.code yX0_load cX0_load 2 none, Cond.fieldLink RX0 22 "ObjectMapper$Row" "name" "I", Cond.fieldLink RX0 25 "ObjectMapper$Row" "reference" "I", Cond.methodLink RX0 26 yX0_make, Cond.instanceMethod yX0_make, Cond.selects RX0 yX0_make yX0_make, Cond.code yX0_make cX0_make 3 none, Cond.fieldLink RX0 19 "ObjectMapper$Entity" "name" "I", Cond.fieldLink RX0 9 "ObjectMapper$Entity" "reference" "I", Cond.methodLink RX0 30 yX0_takeSnapshot, Cond.instanceMethod yX0_takeSnapshot, Cond.selects RX0 yX0_takeSnapshot yX0_takeSnapshot, Cond.code yX0_takeSnapshot cX0_takeSnapshot 2 none, Cond.fieldLink RX0 37 "ObjectMapper$Entity" "snapshotName" "I", Cond.fieldLink RX0 40 "ObjectMapper$Entity" "snapshotReference" "I", Cond.fieldLink RX0 43 "ObjectMapper$Row" "version" "I", Cond.fieldLink RX0 46 "ObjectMapper$Entity" "snapshotVersion" "I"]
def wsX6_removeAuthor_r5 : List Cond := [Cond.methodLink RX6 86 yX4_sizeOf, Cond.instanceMethod yX4_sizeOf, Cond.selects RX4 yX4_sizeOf yX4_sizeOf, Cond.code yX4_sizeOf cX4_sizeOf 2 (some .int), Cond.methodLink RX6 90 yX0_isLiveAndRefersTo, Cond.instanceMethod yX0_isLiveAndRefersTo, Cond.selects RX0 yX0_isLiveAndRefersTo yX0_isLiveAndRefersTo, Cond.code yX0_isLiveAndRefersTo cX0_isLiveAndRefersTo 2 (some .boolean), Cond.methodLink RX0 55 yX0_isLive, Cond.instanceMethod yX0_isLive, Cond.selects RX0 yX0_isLive yX0_isLive, Cond.code yX0_isLive cX0_isLive 1 (some .boolean), Cond.methodLink RX6 115 yX6_removeBook, Cond.instanceMethod yX6_removeBook, Cond.selects RX6 yX6_removeBook yX6_removeBook, Cond.code yX6_removeBook cX6_removeBook 5 none, Cond.fieldLink RX6 108 "ObjectMapper$Entity" "reference" "I"]
def wsX6_removeAuthor : List Cond := .code yX6_removeAuthor cX6_removeAuthor 5 (some .int) :: ((wsX6_removeAuthor_r1 ++ (wsX6_removeAuthor_r2 ++ (wsX6_removeAuthor_r3 ++ (wsX6_removeAuthor_r4 ++ wsX6_removeAuthor_r5)))) ++ wsX40 ++ wsJx4a65c0 ++ wsX00 ++ wsX30 ++ wsX60 ++ wsX50)
def wsX6_remove_r1 : List Cond := [Cond.methodLink RX6 33 yX6_sessionAt, Cond.instanceMethod yX6_sessionAt, Cond.selects RX6 yX6_sessionAt yX6_sessionAt, Cond.initialized RX6, Cond.code yX6_sessionAt cX6_sessionAt 2 (some (.object "ObjectMapper$Session")), Cond.classLink RX6 177 "java/lang/IndexOutOfBoundsException", Cond.initialized "java/lang/IndexOutOfBoundsException", Cond.fieldLink RX6 28 "ObjectMapper" "sessions" "[LObjectMapper$Session;", Cond.methodLink RX6 49 yX6_checkKind, Cond.static yX6_checkKind, Cond.code yX6_checkKind cX6_checkKind 1 none, Cond.classLink RX6 98 "java/lang/IllegalArgumentException", Cond.initialized "java/lang/IllegalArgumentException", Cond.methodLink RX6 45 yX6_checkLive, Cond.static yX6_checkLive, Cond.code yX6_checkLive cX6_checkLive 3 none, Cond.classLink RX6 128 "java/lang/IllegalStateException", Cond.initialized "java/lang/IllegalStateException", Cond.methodLink RX6 60 yX4_entityAt, Cond.instanceMethod yX4_entityAt, Cond.selects RX4 yX4_entityAt yX4_entityAt, Cond.initialized RX4, Cond.code yX4_entityAt cX4_entityAt 4 (some (.object "ObjectMapper$Entity")), Cond.fieldLink RX4 24 "ObjectMapper$Session" "nobody" "LObjectMapper$Entity;"]
def wsX6_remove_r2 : List Cond := [Cond.classLink RX4 21 "ObjectMapper$Entity", Cond.methodLink RX4 28 yX4_listOf, Cond.instanceMethod yX4_listOf, Cond.selects RX4 yX4_listOf yX4_listOf, Cond.code yX4_listOf cX4_listOf 2 (some (.object "java/util/ArrayList")), Cond.fieldLink RX4 12 "ObjectMapper$Session" "authorPlaces" "Ljava/util/ArrayList;", Cond.fieldLink RX4 18 "ObjectMapper$Session" "bookPlaces" "Ljava/util/ArrayList;", Cond.methodLink RX4 32 yJx4a65c_size_8abf5, Cond.instanceMethod yJx4a65c_size_8abf5, Cond.selects RJx4a65c yJx4a65c_size_8abf5 yJx4a65c_size_8abf5, Cond.initialized RJx4a65c, Cond.code yJx4a65c_size_8abf5 cJx4a65c_size_8abf5 1 (some .int), Cond.fieldLink RJx4a65c 48 "java/util/ArrayList" "size" "I", Cond.methodLink RX4 40 yJx4a65c_get_915e3, Cond.instanceMethod yJx4a65c_get_915e3, Cond.selects RJx4a65c yJx4a65c_get_915e3 yJx4a65c_get_915e3, Cond.code yJx4a65c_get_915e3 cJx4a65c_get_915e3 2 (some (.object "java/lang/Object")), Cond.methodLink RJx4a65c 118 yJ15_checkIndex_7cf53, Cond.static yJ15_checkIndex_7cf53, Cond.initialized RJ15, Cond.code yJ15_checkIndex_7cf53 cJ15_checkIndex_7cf53 2 (some .int), Cond.methodLink RJ15 105 yJ3_checkIndex_8e157, Cond.static yJ3_checkIndex_8e157, Cond.initialized RJ3]
def wsX6_remove_r3 : List Cond := [Cond.code yJ3_checkIndex_8e157 cJ3_checkIndex_8e157 3 (some .int), Cond.methodLink RJx4a65c 123 yJx4a65c_elementData_915e3, Cond.instanceMethod yJx4a65c_elementData_915e3, Cond.selects RJx4a65c yJx4a65c_elementData_915e3 yJx4a65c_elementData_915e3, Cond.code yJx4a65c_elementData_915e3 cJx4a65c_elementData_915e3 2 (some (.object "java/lang/Object")), Cond.fieldLink RJx4a65c 9 "java/util/ArrayList" "elementData" "[Ljava/lang/Object;", Cond.methodLink RX6 79 yX0_isLive, Cond.instanceMethod yX0_isLive, Cond.selects RX0 yX0_isLive yX0_isLive, Cond.initialized RX0, Cond.code yX0_isLive cX0_isLive 1 (some .boolean), Cond.fieldLink RX0 15 "ObjectMapper$Entity" "inSession" "Z", Cond.fieldLink RX0 49 "ObjectMapper$Entity" "struckOut" "Z", Cond.methodLink RX6 111 yX6_removeAuthor, Cond.instanceMethod yX6_removeAuthor, Cond.selects RX6 yX6_removeAuthor yX6_removeAuthor, Cond.code yX6_removeAuthor cX6_removeAuthor 5 (some .int), Cond.methodLink RX6 203 yX0_strikeOut, Cond.instanceMethod yX0_strikeOut, Cond.selects RX0 yX0_strikeOut yX0_strikeOut, Cond.code yX0_strikeOut cX0_strikeOut 1 none, Cond.fieldLink RX0 34 "ObjectMapper$Entity" "hasSnapshot" "Z", Cond.methodLink RX0 52 yX0_forget, Cond.instanceMethod yX0_forget]
def wsX6_remove_r4 : List Cond := [Cond.selects RX0 yX0_forget yX0_forget, Cond.code yX0_forget cX0_forget 1 none, Cond.methodLink RX6 83 yX6_loadReferring, Cond.instanceMethod yX6_loadReferring, Cond.selects RX6 yX6_loadReferring yX6_loadReferring, Cond.code yX6_loadReferring cX6_loadReferring 8 none, Cond.fieldLink RX6 64 "ObjectMapper$Row" "there" "Z", Cond.fieldLink RX6 164 "ObjectMapper$Row" "reference" "I", Cond.fieldLink RX6 70 "ObjectMapper$Entity" "inSession" "Z", Cond.methodLink RX6 52 yX6_tableOf, Cond.instanceMethod yX6_tableOf, Cond.selects RX6 yX6_tableOf yX6_tableOf, Cond.code yX6_tableOf cX6_tableOf 2 (some (.object "ObjectMapper$Table")), Cond.fieldLink RX6 10 "ObjectMapper" "authorTable" "LObjectMapper$Table;", Cond.fieldLink RX6 16 "ObjectMapper" "bookTable" "LObjectMapper$Table;", Cond.methodLink RX6 192 yX5_size, Cond.instanceMethod yX5_size, Cond.selects RX5 yX5_size yX5_size, Cond.initialized RX5, Cond.code yX5_size cX5_size 1 (some .int), Cond.fieldLink RX5 10 "ObjectMapper$Table" "places" "Ljava/util/ArrayList;", Cond.methodLink RX5 23 yJx4a65c_size_8abf5, Cond.methodLink RX6 56 yX5_rowAt, Cond.instanceMethod yX5_rowAt]
def wsX6_remove_r5 : List Cond := [Cond.selects RX5 yX5_rowAt yX5_rowAt, Cond.code yX5_rowAt cX5_rowAt 2 (some (.object "ObjectMapper$Row")), Cond.fieldLink RX5 19 "ObjectMapper$Table" "noRow" "LObjectMapper$Row;", Cond.classLink RX5 16 "ObjectMapper$Row", Cond.methodLink RX5 31 yJx4a65c_get_915e3, Cond.methodLink RX6 75 yX0_load, Cond.instanceMethod yX0_load, Cond.selects RX0 yX0_load yX0_load, Cond.code yX0_load cX0_load 2 none, Cond.fieldLink RX0 22 "ObjectMapper$Row" "name" "I", Cond.fieldLink RX0 25 "ObjectMapper$Row" "reference" "I", Cond.methodLink RX0 26 yX0_make, Cond.instanceMethod yX0_make, Cond.selects RX0 yX0_make yX0_make, Cond.code yX0_make cX0_make 3 none, Cond.fieldLink RX0 19 "ObjectMapper$Entity" "name" "I", Cond.fieldLink RX0 9 "ObjectMapper$Entity" "reference" "I", Cond.methodLink RX0 30 yX0_takeSnapshot, Cond.instanceMethod yX0_takeSnapshot, Cond.selects RX0 yX0_takeSnapshot yX0_takeSnapshot, Cond.code yX0_takeSnapshot cX0_takeSnapshot 2 none, Cond.fieldLink RX0 37 "ObjectMapper$Entity" "snapshotName" "I", Cond.fieldLink RX0 40 "ObjectMapper$Entity" "snapshotReference" "I", Cond.fieldLink RX0 43 "ObjectMapper$Row" "version" "I"]
def wsX6_remove_r6 : List Cond := [Cond.fieldLink RX0 46 "ObjectMapper$Entity" "snapshotVersion" "I", Cond.methodLink RX6 86 yX4_sizeOf, Cond.instanceMethod yX4_sizeOf, Cond.selects RX4 yX4_sizeOf yX4_sizeOf, Cond.code yX4_sizeOf cX4_sizeOf 2 (some .int), Cond.methodLink RX6 90 yX0_isLiveAndRefersTo, Cond.instanceMethod yX0_isLiveAndRefersTo, Cond.selects RX0 yX0_isLiveAndRefersTo yX0_isLiveAndRefersTo, Cond.code yX0_isLiveAndRefersTo cX0_isLiveAndRefersTo 2 (some .boolean), Cond.methodLink RX0 55 yX0_isLive, Cond.methodLink RX6 115 yX6_removeBook, Cond.instanceMethod yX6_removeBook, Cond.selects RX6 yX6_removeBook yX6_removeBook, Cond.code yX6_removeBook cX6_removeBook 5 none, Cond.fieldLink RX6 108 "ObjectMapper$Entity" "reference" "I"]
def wsX6_remove : List Cond := .code yX6_remove cX6_remove 5 (some .int) :: ((wsX6_remove_r1 ++ (wsX6_remove_r2 ++ (wsX6_remove_r3 ++ (wsX6_remove_r4 ++ (wsX6_remove_r5 ++ wsX6_remove_r6))))) ++ wsX60 ++ wsX40 ++ wsJx4a65c0 ++ wsX00 ++ wsX30 ++ wsX50 ++ (vx_atS RX6 181 "java/lang/IndexOutOfBoundsException" ["java/lang/RuntimeException", "java/lang/Exception"]).filter goodWord ++ (vx_atS RX6 102 "java/lang/IllegalArgumentException" ["java/lang/RuntimeException", "java/lang/Exception"]).filter goodWord ++ (vx_atS RX6 132 "java/lang/IllegalStateException" ["java/lang/RuntimeException", "java/lang/Exception"]).filter goodWord)
def wsX6_name_r1 : List Cond := [Cond.fieldLink RX6 94 "ObjectMapper$Entity" "name" "I", Cond.methodLink RX6 33 yX6_sessionAt, Cond.instanceMethod yX6_sessionAt, Cond.selects RX6 yX6_sessionAt yX6_sessionAt, Cond.initialized RX6, Cond.code yX6_sessionAt cX6_sessionAt 2 (some (.object "ObjectMapper$Session")), Cond.classLink RX6 177 "java/lang/IndexOutOfBoundsException", Cond.initialized "java/lang/IndexOutOfBoundsException", Cond.fieldLink RX6 28 "ObjectMapper" "sessions" "[LObjectMapper$Session;", Cond.methodLink RX6 49 yX6_checkKind, Cond.static yX6_checkKind, Cond.code yX6_checkKind cX6_checkKind 1 none, Cond.classLink RX6 98 "java/lang/IllegalArgumentException", Cond.initialized "java/lang/IllegalArgumentException", Cond.methodLink RX6 45 yX6_checkLive, Cond.static yX6_checkLive, Cond.code yX6_checkLive cX6_checkLive 3 none, Cond.classLink RX6 128 "java/lang/IllegalStateException", Cond.initialized "java/lang/IllegalStateException", Cond.methodLink RX6 60 yX4_entityAt, Cond.instanceMethod yX4_entityAt, Cond.selects RX4 yX4_entityAt yX4_entityAt, Cond.initialized RX4, Cond.code yX4_entityAt cX4_entityAt 4 (some (.object "ObjectMapper$Entity"))]
def wsX6_name_r2 : List Cond := [Cond.fieldLink RX4 24 "ObjectMapper$Session" "nobody" "LObjectMapper$Entity;", Cond.classLink RX4 21 "ObjectMapper$Entity", Cond.methodLink RX4 28 yX4_listOf, Cond.instanceMethod yX4_listOf, Cond.selects RX4 yX4_listOf yX4_listOf, Cond.code yX4_listOf cX4_listOf 2 (some (.object "java/util/ArrayList")), Cond.fieldLink RX4 12 "ObjectMapper$Session" "authorPlaces" "Ljava/util/ArrayList;", Cond.fieldLink RX4 18 "ObjectMapper$Session" "bookPlaces" "Ljava/util/ArrayList;", Cond.methodLink RX4 32 yJx4a65c_size_8abf5, Cond.instanceMethod yJx4a65c_size_8abf5, Cond.selects RJx4a65c yJx4a65c_size_8abf5 yJx4a65c_size_8abf5, Cond.initialized RJx4a65c, Cond.code yJx4a65c_size_8abf5 cJx4a65c_size_8abf5 1 (some .int), Cond.fieldLink RJx4a65c 48 "java/util/ArrayList" "size" "I", Cond.methodLink RX4 40 yJx4a65c_get_915e3, Cond.instanceMethod yJx4a65c_get_915e3, Cond.selects RJx4a65c yJx4a65c_get_915e3 yJx4a65c_get_915e3, Cond.code yJx4a65c_get_915e3 cJx4a65c_get_915e3 2 (some (.object "java/lang/Object")), Cond.methodLink RJx4a65c 118 yJ15_checkIndex_7cf53, Cond.static yJ15_checkIndex_7cf53, Cond.initialized RJ15, Cond.code yJ15_checkIndex_7cf53 cJ15_checkIndex_7cf53 2 (some .int), Cond.methodLink RJ15 105 yJ3_checkIndex_8e157, Cond.static yJ3_checkIndex_8e157]
def wsX6_name_r3 : List Cond := [Cond.initialized RJ3, Cond.code yJ3_checkIndex_8e157 cJ3_checkIndex_8e157 3 (some .int), Cond.methodLink RJx4a65c 123 yJx4a65c_elementData_915e3, Cond.instanceMethod yJx4a65c_elementData_915e3, Cond.selects RJx4a65c yJx4a65c_elementData_915e3 yJx4a65c_elementData_915e3, Cond.code yJx4a65c_elementData_915e3 cJx4a65c_elementData_915e3 2 (some (.object "java/lang/Object")), Cond.fieldLink RJx4a65c 9 "java/util/ArrayList" "elementData" "[Ljava/lang/Object;", Cond.methodLink RX6 79 yX0_isLive, Cond.instanceMethod yX0_isLive, Cond.selects RX0 yX0_isLive yX0_isLive, Cond.initialized RX0, Cond.code yX0_isLive cX0_isLive 1 (some .boolean), Cond.fieldLink RX0 15 "ObjectMapper$Entity" "inSession" "Z", Cond.fieldLink RX0 49 "ObjectMapper$Entity" "struckOut" "Z"]
def wsX6_name : List Cond := .code yX6_name cX6_name 5 (some .int) :: ((wsX6_name_r1 ++ (wsX6_name_r2 ++ wsX6_name_r3)) ++ wsX00 ++ wsX60 ++ wsX40 ++ wsJx4a65c0 ++ (vx_atS RX6 181 "java/lang/IndexOutOfBoundsException" ["java/lang/RuntimeException", "java/lang/Exception"]).filter goodWord ++ (vx_atS RX6 102 "java/lang/IllegalArgumentException" ["java/lang/RuntimeException", "java/lang/Exception"]).filter goodWord ++ (vx_atS RX6 132 "java/lang/IllegalStateException" ["java/lang/RuntimeException", "java/lang/Exception"]).filter goodWord)
def wsX6_reference_r1 : List Cond := [Cond.fieldLink RX6 108 "ObjectMapper$Entity" "reference" "I", Cond.methodLink RX6 33 yX6_sessionAt, Cond.instanceMethod yX6_sessionAt, Cond.selects RX6 yX6_sessionAt yX6_sessionAt, Cond.initialized RX6, Cond.code yX6_sessionAt cX6_sessionAt 2 (some (.object "ObjectMapper$Session")), Cond.classLink RX6 177 "java/lang/IndexOutOfBoundsException", Cond.initialized "java/lang/IndexOutOfBoundsException", Cond.fieldLink RX6 28 "ObjectMapper" "sessions" "[LObjectMapper$Session;", Cond.methodLink RX6 49 yX6_checkKind, Cond.static yX6_checkKind, Cond.code yX6_checkKind cX6_checkKind 1 none, Cond.classLink RX6 98 "java/lang/IllegalArgumentException", Cond.initialized "java/lang/IllegalArgumentException", Cond.methodLink RX6 45 yX6_checkLive, Cond.static yX6_checkLive, Cond.code yX6_checkLive cX6_checkLive 3 none, Cond.classLink RX6 128 "java/lang/IllegalStateException", Cond.initialized "java/lang/IllegalStateException", Cond.methodLink RX6 60 yX4_entityAt, Cond.instanceMethod yX4_entityAt, Cond.selects RX4 yX4_entityAt yX4_entityAt, Cond.initialized RX4, Cond.code yX4_entityAt cX4_entityAt 4 (some (.object "ObjectMapper$Entity"))]
def wsX6_reference_r2 : List Cond := [Cond.fieldLink RX4 24 "ObjectMapper$Session" "nobody" "LObjectMapper$Entity;", Cond.classLink RX4 21 "ObjectMapper$Entity", Cond.methodLink RX4 28 yX4_listOf, Cond.instanceMethod yX4_listOf, Cond.selects RX4 yX4_listOf yX4_listOf, Cond.code yX4_listOf cX4_listOf 2 (some (.object "java/util/ArrayList")), Cond.fieldLink RX4 12 "ObjectMapper$Session" "authorPlaces" "Ljava/util/ArrayList;", Cond.fieldLink RX4 18 "ObjectMapper$Session" "bookPlaces" "Ljava/util/ArrayList;", Cond.methodLink RX4 32 yJx4a65c_size_8abf5, Cond.instanceMethod yJx4a65c_size_8abf5, Cond.selects RJx4a65c yJx4a65c_size_8abf5 yJx4a65c_size_8abf5, Cond.initialized RJx4a65c, Cond.code yJx4a65c_size_8abf5 cJx4a65c_size_8abf5 1 (some .int), Cond.fieldLink RJx4a65c 48 "java/util/ArrayList" "size" "I", Cond.methodLink RX4 40 yJx4a65c_get_915e3, Cond.instanceMethod yJx4a65c_get_915e3, Cond.selects RJx4a65c yJx4a65c_get_915e3 yJx4a65c_get_915e3, Cond.code yJx4a65c_get_915e3 cJx4a65c_get_915e3 2 (some (.object "java/lang/Object")), Cond.methodLink RJx4a65c 118 yJ15_checkIndex_7cf53, Cond.static yJ15_checkIndex_7cf53, Cond.initialized RJ15, Cond.code yJ15_checkIndex_7cf53 cJ15_checkIndex_7cf53 2 (some .int), Cond.methodLink RJ15 105 yJ3_checkIndex_8e157, Cond.static yJ3_checkIndex_8e157]
def wsX6_reference_r3 : List Cond := [Cond.initialized RJ3, Cond.code yJ3_checkIndex_8e157 cJ3_checkIndex_8e157 3 (some .int), Cond.methodLink RJx4a65c 123 yJx4a65c_elementData_915e3, Cond.instanceMethod yJx4a65c_elementData_915e3, Cond.selects RJx4a65c yJx4a65c_elementData_915e3 yJx4a65c_elementData_915e3, Cond.code yJx4a65c_elementData_915e3 cJx4a65c_elementData_915e3 2 (some (.object "java/lang/Object")), Cond.fieldLink RJx4a65c 9 "java/util/ArrayList" "elementData" "[Ljava/lang/Object;", Cond.methodLink RX6 79 yX0_isLive, Cond.instanceMethod yX0_isLive, Cond.selects RX0 yX0_isLive yX0_isLive, Cond.initialized RX0, Cond.code yX0_isLive cX0_isLive 1 (some .boolean), Cond.fieldLink RX0 15 "ObjectMapper$Entity" "inSession" "Z", Cond.fieldLink RX0 49 "ObjectMapper$Entity" "struckOut" "Z"]
def wsX6_reference : List Cond := .code yX6_reference cX6_reference 5 (some .int) :: ((wsX6_reference_r1 ++ (wsX6_reference_r2 ++ wsX6_reference_r3)) ++ wsX00 ++ wsX60 ++ wsX40 ++ wsJx4a65c0 ++ (vx_atS RX6 181 "java/lang/IndexOutOfBoundsException" ["java/lang/RuntimeException", "java/lang/Exception"]).filter goodWord ++ (vx_atS RX6 102 "java/lang/IllegalArgumentException" ["java/lang/RuntimeException", "java/lang/Exception"]).filter goodWord ++ (vx_atS RX6 132 "java/lang/IllegalStateException" ["java/lang/RuntimeException", "java/lang/Exception"]).filter goodWord)
def wsX6_known_r1 : List Cond := [Cond.methodLink RX6 33 yX6_sessionAt, Cond.instanceMethod yX6_sessionAt, Cond.selects RX6 yX6_sessionAt yX6_sessionAt, Cond.initialized RX6, Cond.code yX6_sessionAt cX6_sessionAt 2 (some (.object "ObjectMapper$Session")), Cond.classLink RX6 177 "java/lang/IndexOutOfBoundsException", Cond.initialized "java/lang/IndexOutOfBoundsException", Cond.fieldLink RX6 28 "ObjectMapper" "sessions" "[LObjectMapper$Session;", Cond.methodLink RX6 119 yX4_countLive, Cond.instanceMethod yX4_countLive, Cond.selects RX4 yX4_countLive yX4_countLive, Cond.initialized RX4, Cond.code yX4_countLive cX4_countLive 4 (some .int), Cond.methodLink RX4 44 yX4_sizeOf, Cond.instanceMethod yX4_sizeOf, Cond.selects RX4 yX4_sizeOf yX4_sizeOf, Cond.code yX4_sizeOf cX4_sizeOf 2 (some .int), Cond.methodLink RX4 28 yX4_listOf, Cond.instanceMethod yX4_listOf, Cond.selects RX4 yX4_listOf yX4_listOf, Cond.code yX4_listOf cX4_listOf 2 (some (.object "java/util/ArrayList")), Cond.fieldLink RX4 12 "ObjectMapper$Session" "authorPlaces" "Ljava/util/ArrayList;", Cond.fieldLink RX4 18 "ObjectMapper$Session" "bookPlaces" "Ljava/util/ArrayList;", Cond.methodLink RX4 32 yJx4a65c_size_8abf5]
def wsX6_known_r2 : List Cond := [Cond.instanceMethod yJx4a65c_size_8abf5, Cond.selects RJx4a65c yJx4a65c_size_8abf5 yJx4a65c_size_8abf5, Cond.initialized RJx4a65c, Cond.code yJx4a65c_size_8abf5 cJx4a65c_size_8abf5 1 (some .int), Cond.fieldLink RJx4a65c 48 "java/util/ArrayList" "size" "I", Cond.methodLink RX4 48 yX4_entityAt, Cond.instanceMethod yX4_entityAt, Cond.selects RX4 yX4_entityAt yX4_entityAt, Cond.code yX4_entityAt cX4_entityAt 4 (some (.object "ObjectMapper$Entity")), Cond.fieldLink RX4 24 "ObjectMapper$Session" "nobody" "LObjectMapper$Entity;", Cond.classLink RX4 21 "ObjectMapper$Entity", Cond.methodLink RX4 40 yJx4a65c_get_915e3, Cond.instanceMethod yJx4a65c_get_915e3, Cond.selects RJx4a65c yJx4a65c_get_915e3 yJx4a65c_get_915e3, Cond.code yJx4a65c_get_915e3 cJx4a65c_get_915e3 2 (some (.object "java/lang/Object")), Cond.methodLink RJx4a65c 118 yJ15_checkIndex_7cf53, Cond.static yJ15_checkIndex_7cf53, Cond.initialized RJ15, Cond.code yJ15_checkIndex_7cf53 cJ15_checkIndex_7cf53 2 (some .int), Cond.methodLink RJ15 105 yJ3_checkIndex_8e157, Cond.static yJ3_checkIndex_8e157, Cond.initialized RJ3, Cond.code yJ3_checkIndex_8e157 cJ3_checkIndex_8e157 3 (some .int), Cond.methodLink RJx4a65c 123 yJx4a65c_elementData_915e3]
def wsX6_known_r3 : List Cond := [Cond.instanceMethod yJx4a65c_elementData_915e3, Cond.selects RJx4a65c yJx4a65c_elementData_915e3 yJx4a65c_elementData_915e3, Cond.code yJx4a65c_elementData_915e3 cJx4a65c_elementData_915e3 2 (some (.object "java/lang/Object")), Cond.fieldLink RJx4a65c 9 "java/util/ArrayList" "elementData" "[Ljava/lang/Object;", Cond.methodLink RX4 52 yX0_isLive, Cond.instanceMethod yX0_isLive, Cond.selects RX0 yX0_isLive yX0_isLive, Cond.initialized RX0, Cond.code yX0_isLive cX0_isLive 1 (some .boolean), Cond.fieldLink RX0 15 "ObjectMapper$Entity" "inSession" "Z", Cond.fieldLink RX0 49 "ObjectMapper$Entity" "struckOut" "Z"]
def wsX6_known : List Cond := .code yX6_known cX6_known 3 (some .int) :: ((wsX6_known_r1 ++ (wsX6_known_r2 ++ wsX6_known_r3)) ++ wsX60 ++ wsX40 ++ wsJx4a65c0 ++ wsX00 ++ (vx_atS RX6 181 "java/lang/IndexOutOfBoundsException" ["java/lang/RuntimeException", "java/lang/Exception"]).filter goodWord)
def wsX6_dirty_r1 : List Cond := [Cond.methodLink RX6 33 yX6_sessionAt, Cond.instanceMethod yX6_sessionAt, Cond.selects RX6 yX6_sessionAt yX6_sessionAt, Cond.initialized RX6, Cond.code yX6_sessionAt cX6_sessionAt 2 (some (.object "ObjectMapper$Session")), Cond.classLink RX6 177 "java/lang/IndexOutOfBoundsException", Cond.initialized "java/lang/IndexOutOfBoundsException", Cond.fieldLink RX6 28 "ObjectMapper" "sessions" "[LObjectMapper$Session;", Cond.methodLink RX6 122 yX4_countLiveAndDirty, Cond.instanceMethod yX4_countLiveAndDirty, Cond.selects RX4 yX4_countLiveAndDirty yX4_countLiveAndDirty, Cond.initialized RX4, Cond.code yX4_countLiveAndDirty cX4_countLiveAndDirty 5 (some .int), Cond.methodLink RX4 44 yX4_sizeOf, Cond.instanceMethod yX4_sizeOf, Cond.selects RX4 yX4_sizeOf yX4_sizeOf, Cond.code yX4_sizeOf cX4_sizeOf 2 (some .int), Cond.methodLink RX4 28 yX4_listOf, Cond.instanceMethod yX4_listOf, Cond.selects RX4 yX4_listOf yX4_listOf, Cond.code yX4_listOf cX4_listOf 2 (some (.object "java/util/ArrayList")), Cond.fieldLink RX4 12 "ObjectMapper$Session" "authorPlaces" "Ljava/util/ArrayList;", Cond.fieldLink RX4 18 "ObjectMapper$Session" "bookPlaces" "Ljava/util/ArrayList;", Cond.methodLink RX4 32 yJx4a65c_size_8abf5]
def wsX6_dirty_r2 : List Cond := [Cond.instanceMethod yJx4a65c_size_8abf5, Cond.selects RJx4a65c yJx4a65c_size_8abf5 yJx4a65c_size_8abf5, Cond.initialized RJx4a65c, Cond.code yJx4a65c_size_8abf5 cJx4a65c_size_8abf5 1 (some .int), Cond.fieldLink RJx4a65c 48 "java/util/ArrayList" "size" "I", Cond.methodLink RX4 48 yX4_entityAt, Cond.instanceMethod yX4_entityAt, Cond.selects RX4 yX4_entityAt yX4_entityAt, Cond.code yX4_entityAt cX4_entityAt 4 (some (.object "ObjectMapper$Entity")), Cond.fieldLink RX4 24 "ObjectMapper$Session" "nobody" "LObjectMapper$Entity;", Cond.classLink RX4 21 "ObjectMapper$Entity", Cond.methodLink RX4 40 yJx4a65c_get_915e3, Cond.instanceMethod yJx4a65c_get_915e3, Cond.selects RJx4a65c yJx4a65c_get_915e3 yJx4a65c_get_915e3, Cond.code yJx4a65c_get_915e3 cJx4a65c_get_915e3 2 (some (.object "java/lang/Object")), Cond.methodLink RJx4a65c 118 yJ15_checkIndex_7cf53, Cond.static yJ15_checkIndex_7cf53, Cond.initialized RJ15, Cond.code yJ15_checkIndex_7cf53 cJ15_checkIndex_7cf53 2 (some .int), Cond.methodLink RJ15 105 yJ3_checkIndex_8e157, Cond.static yJ3_checkIndex_8e157, Cond.initialized RJ3, Cond.code yJ3_checkIndex_8e157 cJ3_checkIndex_8e157 3 (some .int), Cond.methodLink RJx4a65c 123 yJx4a65c_elementData_915e3]
def wsX6_dirty_r3 : List Cond := [Cond.instanceMethod yJx4a65c_elementData_915e3, Cond.selects RJx4a65c yJx4a65c_elementData_915e3 yJx4a65c_elementData_915e3, Cond.code yJx4a65c_elementData_915e3 cJx4a65c_elementData_915e3 2 (some (.object "java/lang/Object")), Cond.fieldLink RJx4a65c 9 "java/util/ArrayList" "elementData" "[Ljava/lang/Object;", Cond.methodLink RX4 52 yX0_isLive, Cond.instanceMethod yX0_isLive, Cond.selects RX0 yX0_isLive yX0_isLive, Cond.initialized RX0, Cond.code yX0_isLive cX0_isLive 1 (some .boolean), Cond.fieldLink RX0 15 "ObjectMapper$Entity" "inSession" "Z", Cond.fieldLink RX0 49 "ObjectMapper$Entity" "struckOut" "Z", Cond.methodLink RX4 56 yX0_isChanged, Cond.instanceMethod yX0_isChanged, Cond.selects RX0 yX0_isChanged yX0_isChanged, Cond.code yX0_isChanged cX0_isChanged 1 (some .boolean), Cond.fieldLink RX0 34 "ObjectMapper$Entity" "hasSnapshot" "Z", Cond.fieldLink RX0 19 "ObjectMapper$Entity" "name" "I", Cond.fieldLink RX0 37 "ObjectMapper$Entity" "snapshotName" "I", Cond.fieldLink RX0 9 "ObjectMapper$Entity" "reference" "I", Cond.fieldLink RX0 40 "ObjectMapper$Entity" "snapshotReference" "I"]
def wsX6_dirty : List Cond := .code yX6_dirty cX6_dirty 3 (some .int) :: ((wsX6_dirty_r1 ++ (wsX6_dirty_r2 ++ wsX6_dirty_r3)) ++ wsX60 ++ wsX40 ++ wsJx4a65c0 ++ wsX00 ++ (vx_atS RX6 181 "java/lang/IndexOutOfBoundsException" ["java/lang/RuntimeException", "java/lang/Exception"]).filter goodWord)
def wsX6_flush_r1 : List Cond := [Cond.classLink RX6 128 "java/lang/IllegalStateException", Cond.initialized "java/lang/IllegalStateException", Cond.fieldLink RX6 22 "ObjectMapper" "journal" "LObjectMapper$Journal;", Cond.classLink RX6 133 RX1, Cond.instantiable RX1 4, Cond.initialized RX1, Cond.fieldLink RX6 10 "ObjectMapper" "authorTable" "LObjectMapper$Table;", Cond.fieldLink RX6 16 "ObjectMapper" "bookTable" "LObjectMapper$Table;", Cond.fieldLink RX6 146 "ObjectMapper$Journal" "size" "I", Cond.methodLink RX6 33 yX6_sessionAt, Cond.instanceMethod yX6_sessionAt, Cond.selects RX6 yX6_sessionAt yX6_sessionAt, Cond.initialized RX6, Cond.code yX6_sessionAt cX6_sessionAt 2 (some (.object "ObjectMapper$Session")), Cond.classLink RX6 177 "java/lang/IndexOutOfBoundsException", Cond.initialized "java/lang/IndexOutOfBoundsException", Cond.fieldLink RX6 28 "ObjectMapper" "sessions" "[LObjectMapper$Session;", Cond.methodLink RX6 125 yX2_isFull, Cond.instanceMethod yX2_isFull, Cond.selects RX2 yX2_isFull yX2_isFull, Cond.initialized RX2, Cond.code yX2_isFull cX2_isFull 1 (some .boolean), Cond.fieldLink RX2 18 "ObjectMapper$Journal" "size" "I", Cond.methodLink RX6 135 yX1_init]
def wsX6_flush_r2 : List Cond := [Cond.instanceMethod yX1_init, Cond.code yX1_init cX1_init 5 none, Cond.methodLink RX1 3 objectInit, Cond.instanceMethod objectInit, Cond.code objectInit ⟨#[0xb1]⟩ 1 none, Cond.fieldLink RX1 9 "ObjectMapper$Flush" "session" "LObjectMapper$Session;", Cond.fieldLink RX1 15 "ObjectMapper$Flush" "authorTable" "LObjectMapper$Table;", Cond.fieldLink RX1 19 "ObjectMapper$Flush" "bookTable" "LObjectMapper$Table;", Cond.fieldLink RX1 22 "ObjectMapper$Flush" "journal" "LObjectMapper$Journal;", Cond.methodLink RX6 138 yX1_clashes, Cond.instanceMethod yX1_clashes, Cond.selects RX1 yX1_clashes yX1_clashes, Cond.code yX1_clashes cX1_clashes 1 (some .boolean), Cond.methodLink RX1 26 yX1_clashesIn, Cond.instanceMethod yX1_clashesIn, Cond.selects RX1 yX1_clashesIn yX1_clashesIn, Cond.code yX1_clashesIn cX1_clashesIn 3 (some .boolean), Cond.methodLink RX1 30 yX4_sizeOf, Cond.instanceMethod yX4_sizeOf, Cond.selects RX4 yX4_sizeOf yX4_sizeOf, Cond.initialized RX4, Cond.code yX4_sizeOf cX4_sizeOf 2 (some .int), Cond.methodLink RX4 28 yX4_listOf, Cond.instanceMethod yX4_listOf]
def wsX6_flush_r3 : List Cond := [Cond.selects RX4 yX4_listOf yX4_listOf, Cond.code yX4_listOf cX4_listOf 2 (some (.object "java/util/ArrayList")), Cond.fieldLink RX4 12 "ObjectMapper$Session" "authorPlaces" "Ljava/util/ArrayList;", Cond.fieldLink RX4 18 "ObjectMapper$Session" "bookPlaces" "Ljava/util/ArrayList;", Cond.methodLink RX4 32 yJx4a65c_size_8abf5, Cond.instanceMethod yJx4a65c_size_8abf5, Cond.selects RJx4a65c yJx4a65c_size_8abf5 yJx4a65c_size_8abf5, Cond.initialized RJx4a65c, Cond.code yJx4a65c_size_8abf5 cJx4a65c_size_8abf5 1 (some .int), Cond.fieldLink RJx4a65c 48 "java/util/ArrayList" "size" "I", Cond.methodLink RX1 36 yX4_entityAt, Cond.instanceMethod yX4_entityAt, Cond.selects RX4 yX4_entityAt yX4_entityAt, Cond.code yX4_entityAt cX4_entityAt 4 (some (.object "ObjectMapper$Entity")), Cond.fieldLink RX4 24 "ObjectMapper$Session" "nobody" "LObjectMapper$Entity;", Cond.classLink RX4 21 "ObjectMapper$Entity", Cond.methodLink RX4 40 yJx4a65c_get_915e3, Cond.instanceMethod yJx4a65c_get_915e3, Cond.selects RJx4a65c yJx4a65c_get_915e3 yJx4a65c_get_915e3, Cond.code yJx4a65c_get_915e3 cJx4a65c_get_915e3 2 (some (.object "java/lang/Object")), Cond.methodLink RJx4a65c 118 yJ15_checkIndex_7cf53, Cond.static yJ15_checkIndex_7cf53, Cond.initialized RJ15, Cond.code yJ15_checkIndex_7cf53 cJ15_checkIndex_7cf53 2 (some .int)]
def wsX6_flush_r4 : List Cond := [Cond.methodLink RJ15 105 yJ3_checkIndex_8e157, Cond.static yJ3_checkIndex_8e157, Cond.initialized RJ3, Cond.code yJ3_checkIndex_8e157 cJ3_checkIndex_8e157 3 (some .int), Cond.methodLink RJx4a65c 123 yJx4a65c_elementData_915e3, Cond.instanceMethod yJx4a65c_elementData_915e3, Cond.selects RJx4a65c yJx4a65c_elementData_915e3 yJx4a65c_elementData_915e3, Cond.code yJx4a65c_elementData_915e3 cJx4a65c_elementData_915e3 2 (some (.object "java/lang/Object")), Cond.fieldLink RJx4a65c 9 "java/util/ArrayList" "elementData" "[Ljava/lang/Object;", Cond.methodLink RX1 40 yX1_tableFor, Cond.instanceMethod yX1_tableFor, Cond.selects RX1 yX1_tableFor yX1_tableFor, Cond.code yX1_tableFor cX1_tableFor 2 (some (.object "ObjectMapper$Table")), Cond.methodLink RX1 44 yX5_rowAt, Cond.instanceMethod yX5_rowAt, Cond.selects RX5 yX5_rowAt yX5_rowAt, Cond.initialized RX5, Cond.code yX5_rowAt cX5_rowAt 2 (some (.object "ObjectMapper$Row")), Cond.fieldLink RX5 10 "ObjectMapper$Table" "places" "Ljava/util/ArrayList;", Cond.fieldLink RX5 19 "ObjectMapper$Table" "noRow" "LObjectMapper$Row;", Cond.classLink RX5 16 "ObjectMapper$Row", Cond.methodLink RX5 23 yJx4a65c_size_8abf5, Cond.methodLink RX5 31 yJx4a65c_get_915e3, Cond.methodLink RX1 50 yX0_clashesWith]
def wsX6_flush_r5 : List Cond := [Cond.instanceMethod yX0_clashesWith, Cond.selects RX0 yX0_clashesWith yX0_clashesWith, Cond.initialized RX0, Cond.code yX0_clashesWith cX0_clashesWith 2 (some .boolean), Cond.fieldLink RX0 49 "ObjectMapper$Entity" "struckOut" "Z", Cond.fieldLink RX0 62 "ObjectMapper$Row" "there" "Z", Cond.fieldLink RX0 43 "ObjectMapper$Row" "version" "I", Cond.fieldLink RX0 46 "ObjectMapper$Entity" "snapshotVersion" "I", Cond.methodLink RX0 59 yX0_isChanged, Cond.instanceMethod yX0_isChanged, Cond.selects RX0 yX0_isChanged yX0_isChanged, Cond.code yX0_isChanged cX0_isChanged 1 (some .boolean), Cond.fieldLink RX0 34 "ObjectMapper$Entity" "hasSnapshot" "Z", Cond.fieldLink RX0 19 "ObjectMapper$Entity" "name" "I", Cond.fieldLink RX0 37 "ObjectMapper$Entity" "snapshotName" "I", Cond.fieldLink RX0 9 "ObjectMapper$Entity" "reference" "I", Cond.fieldLink RX0 40 "ObjectMapper$Entity" "snapshotReference" "I", Cond.methodLink RX6 141 yX1_leavesDanglingReference, Cond.instanceMethod yX1_leavesDanglingReference, Cond.selects RX1 yX1_leavesDanglingReference yX1_leavesDanglingReference, Cond.code yX1_leavesDanglingReference cX1_leavesDanglingReference 1 (some .boolean), Cond.methodLink RX1 56 yX1_leavesDanglingIn, Cond.instanceMethod yX1_leavesDanglingIn, Cond.selects RX1 yX1_leavesDanglingIn yX1_leavesDanglingIn]
def wsX6_flush_r6 : List Cond := [Cond.code yX1_leavesDanglingIn cX1_leavesDanglingIn 4 (some .boolean), Cond.methodLink RX1 59 yX1_referenceBehind, Cond.instanceMethod yX1_referenceBehind, Cond.selects RX1 yX1_referenceBehind yX1_referenceBehind, Cond.code yX1_referenceBehind cX1_referenceBehind 4 (some .int), Cond.fieldLink RX1 86 "ObjectMapper$Entity" "reference" "I", Cond.fieldLink RX1 90 "ObjectMapper$Row" "reference" "I", Cond.methodLink RX1 70 yX0_isNew, Cond.instanceMethod yX0_isNew, Cond.selects RX0 yX0_isNew yX0_isNew, Cond.code yX0_isNew cX0_isNew 1 (some .boolean), Cond.fieldLink RX0 15 "ObjectMapper$Entity" "inSession" "Z", Cond.methodLink RX1 83 yX0_isChanged, Cond.methodLink RX1 63 yX1_isThereBehind, Cond.instanceMethod yX1_isThereBehind, Cond.selects RX1 yX1_isThereBehind yX1_isThereBehind, Cond.code yX1_isThereBehind cX1_isThereBehind 4 (some .boolean), Cond.fieldLink RX1 74 "ObjectMapper$Entity" "struckOut" "Z", Cond.fieldLink RX1 78 "ObjectMapper$Row" "there" "Z", Cond.static yX6_otherKind, Cond.code yX6_otherKind cX6_otherKind 1 (some .int), Cond.methodLink RX6 149 yX1_doWrites, Cond.instanceMethod yX1_doWrites, Cond.selects RX1 yX1_doWrites yX1_doWrites]
def wsX6_flush_r7 : List Cond := [Cond.code yX1_doWrites cX1_doWrites 1 none, Cond.methodLink RX1 91 yX1_insertAuthors, Cond.instanceMethod yX1_insertAuthors, Cond.selects RX1 yX1_insertAuthors yX1_insertAuthors, Cond.code yX1_insertAuthors cX1_insertAuthors 4 none, Cond.methodLink RX1 104 yX1_insert, Cond.instanceMethod yX1_insert, Cond.selects RX1 yX1_insert yX1_insert, Cond.code yX1_insert cX1_insert 6 none, Cond.fieldLink RX1 108 "ObjectMapper$Entity" "name" "I", Cond.methodLink RX1 111 yX3_insert, Cond.instanceMethod yX3_insert, Cond.selects RX3 yX3_insert yX3_insert, Cond.initialized RX3, Cond.code yX3_insert cX3_insert 3 none, Cond.fieldLink RX3 15 "ObjectMapper$Row" "there" "Z", Cond.fieldLink RX3 19 "ObjectMapper$Row" "name" "I", Cond.fieldLink RX3 9 "ObjectMapper$Row" "reference" "I", Cond.fieldLink RX3 22 "ObjectMapper$Row" "version" "I", Cond.methodLink RX1 114 yX2_note, Cond.instanceMethod yX2_note, Cond.selects RX2 yX2_note yX2_note, Cond.code yX2_note cX2_note 4 none, Cond.fieldLink RX2 11 "ObjectMapper$Journal" "actions" "[I"]
def wsX6_flush_r8 : List Cond := [Cond.fieldLink RX2 15 "ObjectMapper$Journal" "rowNumbers" "[I", Cond.methodLink RX2 22 yJ7_copyOf_59c91, Cond.static yJ7_copyOf_59c91, Cond.initialized RJ7, Cond.code yJ7_copyOf_59c91 cJ7_copyOf_59c91 3 (some (.array .int)), Cond.methodLink RJ7 316 ⟨"[I", "clone", "()Ljava/lang/Object;"⟩, Cond.sameMethod "[I" "java/lang/Object" "clone" "()Ljava/lang/Object;", Cond.native ⟨"java/lang/Object", "clone", "()Ljava/lang/Object;"⟩, Cond.instanceMethod ⟨"java/lang/Object", "clone", "()Ljava/lang/Object;"⟩, Cond.selects "[I" ⟨"[I", "clone", "()Ljava/lang/Object;"⟩ ⟨"java/lang/Object", "clone", "()Ljava/lang/Object;"⟩, Cond.classLink RJ7 317 "[I", Cond.arrayClass .int, Cond.methodLink RJ7 304 Lib.Math.min.name, Cond.static Lib.Math.min.name, Cond.initialized "java/lang/Math", Cond.code Lib.Math.min.name Lib.Math.min.code 2 (some .int), Cond.methodLink RJ7 150 arraycopyName, Cond.native arraycopyName, Cond.static arraycopyName, Cond.initialized "java/lang/System", Cond.methodLink RX1 120 yX0_takeSnapshot, Cond.instanceMethod yX0_takeSnapshot, Cond.selects RX0 yX0_takeSnapshot yX0_takeSnapshot, Cond.code yX0_takeSnapshot cX0_takeSnapshot 2 none]
def wsX6_flush_r9 : List Cond := [Cond.fieldLink RX0 22 "ObjectMapper$Row" "name" "I", Cond.fieldLink RX0 25 "ObjectMapper$Row" "reference" "I", Cond.methodLink RX1 94 yX1_insertBooks, Cond.instanceMethod yX1_insertBooks, Cond.selects RX1 yX1_insertBooks yX1_insertBooks, Cond.code yX1_insertBooks cX1_insertBooks 3 none, Cond.methodLink RX1 97 yX1_updateChanged, Cond.instanceMethod yX1_updateChanged, Cond.selects RX1 yX1_updateChanged yX1_updateChanged, Cond.code yX1_updateChanged cX1_updateChanged 5 none, Cond.methodLink RX1 124 yX3_update, Cond.instanceMethod yX3_update, Cond.selects RX3 yX3_update yX3_update, Cond.code yX3_update cX3_update 3 none, Cond.methodLink RX1 101 yX1_deleteStruckOut, Cond.instanceMethod yX1_deleteStruckOut, Cond.selects RX1 yX1_deleteStruckOut yX1_deleteStruckOut, Cond.code yX1_deleteStruckOut cX1_deleteStruckOut 4 none, Cond.methodLink RX1 127 yX0_forget, Cond.instanceMethod yX0_forget, Cond.selects RX0 yX0_forget yX0_forget, Cond.code yX0_forget cX0_forget 1 none]
def wsX6_flush : List Cond := .code yX6_flush cX6_flush 5 (some .int) :: ((wsX6_flush_r1 ++ (wsX6_flush_r2 ++ (wsX6_flush_r3 ++ (wsX6_flush_r4 ++ (wsX6_flush_r5 ++ (wsX6_flush_r6 ++ (wsX6_flush_r7 ++ (wsX6_flush_r8 ++ wsX6_flush_r9)))))))) ++ wsX60 ++ wsX10 ++ wsX20 ++ wsX40 ++ wsJx4a65c0 ++ wsX50 ++ wsX00 ++ wsX30 ++ (vx_atS RX6 132 "java/lang/IllegalStateException" ["java/lang/RuntimeException", "java/lang/Exception"]).filter goodWord ++ (vx_atS RX6 181 "java/lang/IndexOutOfBoundsException" ["java/lang/RuntimeException", "java/lang/Exception"]).filter goodWord)
def wsX6_clear_r1 : List Cond := [Cond.methodLink RX6 33 yX6_sessionAt, Cond.instanceMethod yX6_sessionAt, Cond.selects RX6 yX6_sessionAt yX6_sessionAt, Cond.initialized RX6, Cond.code yX6_sessionAt cX6_sessionAt 2 (some (.object "ObjectMapper$Session")), Cond.classLink RX6 177 "java/lang/IndexOutOfBoundsException", Cond.initialized "java/lang/IndexOutOfBoundsException", Cond.fieldLink RX6 28 "ObjectMapper" "sessions" "[LObjectMapper$Session;", Cond.methodLink RX6 119 yX4_countLive, Cond.instanceMethod yX4_countLive, Cond.selects RX4 yX4_countLive yX4_countLive, Cond.initialized RX4, Cond.code yX4_countLive cX4_countLive 4 (some .int), Cond.methodLink RX4 44 yX4_sizeOf, Cond.instanceMethod yX4_sizeOf, Cond.selects RX4 yX4_sizeOf yX4_sizeOf, Cond.code yX4_sizeOf cX4_sizeOf 2 (some .int), Cond.methodLink RX4 28 yX4_listOf, Cond.instanceMethod yX4_listOf, Cond.selects RX4 yX4_listOf yX4_listOf, Cond.code yX4_listOf cX4_listOf 2 (some (.object "java/util/ArrayList")), Cond.fieldLink RX4 12 "ObjectMapper$Session" "authorPlaces" "Ljava/util/ArrayList;", Cond.fieldLink RX4 18 "ObjectMapper$Session" "bookPlaces" "Ljava/util/ArrayList;", Cond.methodLink RX4 32 yJx4a65c_size_8abf5]
def wsX6_clear_r2 : List Cond := [Cond.instanceMethod yJx4a65c_size_8abf5, Cond.selects RJx4a65c yJx4a65c_size_8abf5 yJx4a65c_size_8abf5, Cond.initialized RJx4a65c, Cond.code yJx4a65c_size_8abf5 cJx4a65c_size_8abf5 1 (some .int), Cond.fieldLink RJx4a65c 48 "java/util/ArrayList" "size" "I", Cond.methodLink RX4 48 yX4_entityAt, Cond.instanceMethod yX4_entityAt, Cond.selects RX4 yX4_entityAt yX4_entityAt, Cond.code yX4_entityAt cX4_entityAt 4 (some (.object "ObjectMapper$Entity")), Cond.fieldLink RX4 24 "ObjectMapper$Session" "nobody" "LObjectMapper$Entity;", Cond.classLink RX4 21 "ObjectMapper$Entity", Cond.methodLink RX4 40 yJx4a65c_get_915e3, Cond.instanceMethod yJx4a65c_get_915e3, Cond.selects RJx4a65c yJx4a65c_get_915e3 yJx4a65c_get_915e3, Cond.code yJx4a65c_get_915e3 cJx4a65c_get_915e3 2 (some (.object "java/lang/Object")), Cond.methodLink RJx4a65c 118 yJ15_checkIndex_7cf53, Cond.static yJ15_checkIndex_7cf53, Cond.initialized RJ15, Cond.code yJ15_checkIndex_7cf53 cJ15_checkIndex_7cf53 2 (some .int), Cond.methodLink RJ15 105 yJ3_checkIndex_8e157, Cond.static yJ3_checkIndex_8e157, Cond.initialized RJ3, Cond.code yJ3_checkIndex_8e157 cJ3_checkIndex_8e157 3 (some .int), Cond.methodLink RJx4a65c 123 yJx4a65c_elementData_915e3]
def wsX6_clear_r3 : List Cond := [Cond.instanceMethod yJx4a65c_elementData_915e3, Cond.selects RJx4a65c yJx4a65c_elementData_915e3 yJx4a65c_elementData_915e3, Cond.code yJx4a65c_elementData_915e3 cJx4a65c_elementData_915e3 2 (some (.object "java/lang/Object")), Cond.fieldLink RJx4a65c 9 "java/util/ArrayList" "elementData" "[Ljava/lang/Object;", Cond.methodLink RX4 52 yX0_isLive, Cond.instanceMethod yX0_isLive, Cond.selects RX0 yX0_isLive yX0_isLive, Cond.initialized RX0, Cond.code yX0_isLive cX0_isLive 1 (some .boolean), Cond.fieldLink RX0 15 "ObjectMapper$Entity" "inSession" "Z", Cond.fieldLink RX0 49 "ObjectMapper$Entity" "struckOut" "Z", Cond.methodLink RX6 152 yX4_forgetAll, Cond.instanceMethod yX4_forgetAll, Cond.selects RX4 yX4_forgetAll yX4_forgetAll, Cond.code yX4_forgetAll cX4_forgetAll 3 none, Cond.methodLink RX4 59 yX0_forget, Cond.instanceMethod yX0_forget, Cond.selects RX0 yX0_forget yX0_forget, Cond.code yX0_forget cX0_forget 1 none, Cond.fieldLink RX0 34 "ObjectMapper$Entity" "hasSnapshot" "Z"]
def wsX6_clear : List Cond := .code yX6_clear cX6_clear 4 (some .int) :: ((wsX6_clear_r1 ++ (wsX6_clear_r2 ++ wsX6_clear_r3)) ++ wsX60 ++ wsX40 ++ wsJx4a65c0 ++ wsX00 ++ (vx_atS RX6 181 "java/lang/IndexOutOfBoundsException" ["java/lang/RuntimeException", "java/lang/Exception"]).filter goodWord)
def wsX6_rows_r1 : List Cond := [Cond.methodLink RX6 49 yX6_checkKind, Cond.static yX6_checkKind, Cond.initialized RX6, Cond.code yX6_checkKind cX6_checkKind 1 none, Cond.classLink RX6 98 "java/lang/IllegalArgumentException", Cond.initialized "java/lang/IllegalArgumentException", Cond.methodLink RX6 52 yX6_tableOf, Cond.instanceMethod yX6_tableOf, Cond.selects RX6 yX6_tableOf yX6_tableOf, Cond.code yX6_tableOf cX6_tableOf 2 (some (.object "ObjectMapper$Table")), Cond.fieldLink RX6 10 "ObjectMapper" "authorTable" "LObjectMapper$Table;", Cond.fieldLink RX6 16 "ObjectMapper" "bookTable" "LObjectMapper$Table;", Cond.methodLink RX6 155 yX5_countThere, Cond.instanceMethod yX5_countThere, Cond.selects RX5 yX5_countThere yX5_countThere, Cond.initialized RX5, Cond.code yX5_countThere cX5_countThere 3 (some .int), Cond.fieldLink RX5 10 "ObjectMapper$Table" "places" "Ljava/util/ArrayList;", Cond.fieldLink RX5 39 "ObjectMapper$Row" "there" "Z", Cond.methodLink RX5 23 yJx4a65c_size_8abf5, Cond.instanceMethod yJx4a65c_size_8abf5, Cond.selects RJx4a65c yJx4a65c_size_8abf5 yJx4a65c_size_8abf5, Cond.initialized RJx4a65c, Cond.code yJx4a65c_size_8abf5 cJx4a65c_size_8abf5 1 (some .int)]
def wsX6_rows_r2 : List Cond := [Cond.fieldLink RJx4a65c 48 "java/util/ArrayList" "size" "I", Cond.methodLink RX5 35 yX5_rowAt, Cond.instanceMethod yX5_rowAt, Cond.selects RX5 yX5_rowAt yX5_rowAt, Cond.code yX5_rowAt cX5_rowAt 2 (some (.object "ObjectMapper$Row")), Cond.fieldLink RX5 19 "ObjectMapper$Table" "noRow" "LObjectMapper$Row;", Cond.classLink RX5 16 "ObjectMapper$Row", Cond.methodLink RX5 31 yJx4a65c_get_915e3, Cond.instanceMethod yJx4a65c_get_915e3, Cond.selects RJx4a65c yJx4a65c_get_915e3 yJx4a65c_get_915e3, Cond.code yJx4a65c_get_915e3 cJx4a65c_get_915e3 2 (some (.object "java/lang/Object")), Cond.methodLink RJx4a65c 118 yJ15_checkIndex_7cf53, Cond.static yJ15_checkIndex_7cf53, Cond.initialized RJ15, Cond.code yJ15_checkIndex_7cf53 cJ15_checkIndex_7cf53 2 (some .int), Cond.methodLink RJ15 105 yJ3_checkIndex_8e157, Cond.static yJ3_checkIndex_8e157, Cond.initialized RJ3, Cond.code yJ3_checkIndex_8e157 cJ3_checkIndex_8e157 3 (some .int), Cond.methodLink RJx4a65c 123 yJx4a65c_elementData_915e3, Cond.instanceMethod yJx4a65c_elementData_915e3, Cond.selects RJx4a65c yJx4a65c_elementData_915e3 yJx4a65c_elementData_915e3, Cond.code yJx4a65c_elementData_915e3 cJx4a65c_elementData_915e3 2 (some (.object "java/lang/Object")), Cond.fieldLink RJx4a65c 9 "java/util/ArrayList" "elementData" "[Ljava/lang/Object;"]
def wsX6_rows : List Cond := .code yX6_rows cX6_rows 2 (some .int) :: ((wsX6_rows_r1 ++ wsX6_rows_r2) ++ wsX60 ++ wsX50 ++ wsX30 ++ wsJx4a65c0 ++ (vx_atS RX6 102 "java/lang/IllegalArgumentException" ["java/lang/RuntimeException", "java/lang/Exception"]).filter goodWord)
def wsX6_checkedRow_r1 : List Cond := [Cond.classLink RX6 177 "java/lang/IndexOutOfBoundsException", Cond.initialized "java/lang/IndexOutOfBoundsException", Cond.fieldLink RX6 64 "ObjectMapper$Row" "there" "Z", Cond.methodLink RX6 49 yX6_checkKind, Cond.static yX6_checkKind, Cond.initialized RX6, Cond.code yX6_checkKind cX6_checkKind 1 none, Cond.classLink RX6 98 "java/lang/IllegalArgumentException", Cond.initialized "java/lang/IllegalArgumentException", Cond.methodLink RX6 52 yX6_tableOf, Cond.instanceMethod yX6_tableOf, Cond.selects RX6 yX6_tableOf yX6_tableOf, Cond.code yX6_tableOf cX6_tableOf 2 (some (.object "ObjectMapper$Table")), Cond.fieldLink RX6 10 "ObjectMapper" "authorTable" "LObjectMapper$Table;", Cond.fieldLink RX6 16 "ObjectMapper" "bookTable" "LObjectMapper$Table;", Cond.methodLink RX6 56 yX5_rowAt, Cond.instanceMethod yX5_rowAt, Cond.selects RX5 yX5_rowAt yX5_rowAt, Cond.initialized RX5, Cond.code yX5_rowAt cX5_rowAt 2 (some (.object "ObjectMapper$Row")), Cond.fieldLink RX5 10 "ObjectMapper$Table" "places" "Ljava/util/ArrayList;", Cond.fieldLink RX5 19 "ObjectMapper$Table" "noRow" "LObjectMapper$Row;", Cond.classLink RX5 16 "ObjectMapper$Row", Cond.methodLink RX5 23 yJx4a65c_size_8abf5]
def wsX6_checkedRow_r2 : List Cond := [Cond.instanceMethod yJx4a65c_size_8abf5, Cond.selects RJx4a65c yJx4a65c_size_8abf5 yJx4a65c_size_8abf5, Cond.initialized RJx4a65c, Cond.code yJx4a65c_size_8abf5 cJx4a65c_size_8abf5 1 (some .int), Cond.fieldLink RJx4a65c 48 "java/util/ArrayList" "size" "I", Cond.methodLink RX5 31 yJx4a65c_get_915e3, Cond.instanceMethod yJx4a65c_get_915e3, Cond.selects RJx4a65c yJx4a65c_get_915e3 yJx4a65c_get_915e3, Cond.code yJx4a65c_get_915e3 cJx4a65c_get_915e3 2 (some (.object "java/lang/Object")), Cond.methodLink RJx4a65c 118 yJ15_checkIndex_7cf53, Cond.static yJ15_checkIndex_7cf53, Cond.initialized RJ15, Cond.code yJ15_checkIndex_7cf53 cJ15_checkIndex_7cf53 2 (some .int), Cond.methodLink RJ15 105 yJ3_checkIndex_8e157, Cond.static yJ3_checkIndex_8e157, Cond.initialized RJ3, Cond.code yJ3_checkIndex_8e157 cJ3_checkIndex_8e157 3 (some .int), Cond.methodLink RJx4a65c 123 yJx4a65c_elementData_915e3, Cond.instanceMethod yJx4a65c_elementData_915e3, Cond.selects RJx4a65c yJx4a65c_elementData_915e3 yJx4a65c_elementData_915e3, Cond.code yJx4a65c_elementData_915e3 cJx4a65c_elementData_915e3 2 (some (.object "java/lang/Object")), Cond.fieldLink RJx4a65c 9 "java/util/ArrayList" "elementData" "[Ljava/lang/Object;"]
def wsX6_checkedRow : List Cond := .code yX6_checkedRow cX6_checkedRow 4 (some (.object "ObjectMapper$Row")) :: ((wsX6_checkedRow_r1 ++ wsX6_checkedRow_r2) ++ wsX30 ++ wsX60 ++ wsX50 ++ wsJx4a65c0 ++ (vx_atS RX6 181 "java/lang/IndexOutOfBoundsException" ["java/lang/RuntimeException", "java/lang/Exception"]).filter goodWord ++ (vx_atS RX6 102 "java/lang/IllegalArgumentException" ["java/lang/RuntimeException", "java/lang/Exception"]).filter goodWord)
def wsX6_rowName_r1 : List Cond := [Cond.fieldLink RX6 163 "ObjectMapper$Row" "name" "I", Cond.methodLink RX6 159 yX6_checkedRow, Cond.instanceMethod yX6_checkedRow, Cond.selects RX6 yX6_checkedRow yX6_checkedRow, Cond.initialized RX6, Cond.code yX6_checkedRow cX6_checkedRow 4 (some (.object "ObjectMapper$Row")), Cond.classLink RX6 177 "java/lang/IndexOutOfBoundsException", Cond.initialized "java/lang/IndexOutOfBoundsException", Cond.fieldLink RX6 64 "ObjectMapper$Row" "there" "Z", Cond.methodLink RX6 49 yX6_checkKind, Cond.static yX6_checkKind, Cond.code yX6_checkKind cX6_checkKind 1 none, Cond.classLink RX6 98 "java/lang/IllegalArgumentException", Cond.initialized "java/lang/IllegalArgumentException", Cond.methodLink RX6 52 yX6_tableOf, Cond.instanceMethod yX6_tableOf, Cond.selects RX6 yX6_tableOf yX6_tableOf, Cond.code yX6_tableOf cX6_tableOf 2 (some (.object "ObjectMapper$Table")), Cond.fieldLink RX6 10 "ObjectMapper" "authorTable" "LObjectMapper$Table;", Cond.fieldLink RX6 16 "ObjectMapper" "bookTable" "LObjectMapper$Table;", Cond.methodLink RX6 56 yX5_rowAt, Cond.instanceMethod yX5_rowAt, Cond.selects RX5 yX5_rowAt yX5_rowAt, Cond.initialized RX5]
def wsX6_rowName_r2 : List Cond := [Cond.code yX5_rowAt cX5_rowAt 2 (some (.object "ObjectMapper$Row")), Cond.fieldLink RX5 10 "ObjectMapper$Table" "places" "Ljava/util/ArrayList;", Cond.fieldLink RX5 19 "ObjectMapper$Table" "noRow" "LObjectMapper$Row;", Cond.classLink RX5 16 "ObjectMapper$Row", Cond.methodLink RX5 23 yJx4a65c_size_8abf5, Cond.instanceMethod yJx4a65c_size_8abf5, Cond.selects RJx4a65c yJx4a65c_size_8abf5 yJx4a65c_size_8abf5, Cond.initialized RJx4a65c, Cond.code yJx4a65c_size_8abf5 cJx4a65c_size_8abf5 1 (some .int), Cond.fieldLink RJx4a65c 48 "java/util/ArrayList" "size" "I", Cond.methodLink RX5 31 yJx4a65c_get_915e3, Cond.instanceMethod yJx4a65c_get_915e3, Cond.selects RJx4a65c yJx4a65c_get_915e3 yJx4a65c_get_915e3, Cond.code yJx4a65c_get_915e3 cJx4a65c_get_915e3 2 (some (.object "java/lang/Object")), Cond.methodLink RJx4a65c 118 yJ15_checkIndex_7cf53, Cond.static yJ15_checkIndex_7cf53, Cond.initialized RJ15, Cond.code yJ15_checkIndex_7cf53 cJ15_checkIndex_7cf53 2 (some .int), Cond.methodLink RJ15 105 yJ3_checkIndex_8e157, Cond.static yJ3_checkIndex_8e157, Cond.initialized RJ3, Cond.code yJ3_checkIndex_8e157 cJ3_checkIndex_8e157 3 (some .int), Cond.methodLink RJx4a65c 123 yJx4a65c_elementData_915e3, Cond.instanceMethod yJx4a65c_elementData_915e3]
def wsX6_rowName_r3 : List Cond := [Cond.selects RJx4a65c yJx4a65c_elementData_915e3 yJx4a65c_elementData_915e3, Cond.code yJx4a65c_elementData_915e3 cJx4a65c_elementData_915e3 2 (some (.object "java/lang/Object")), Cond.fieldLink RJx4a65c 9 "java/util/ArrayList" "elementData" "[Ljava/lang/Object;"]
def wsX6_rowName : List Cond := .code yX6_rowName cX6_rowName 3 (some .int) :: ((wsX6_rowName_r1 ++ (wsX6_rowName_r2 ++ wsX6_rowName_r3)) ++ wsX30 ++ wsX60 ++ wsX50 ++ wsJx4a65c0 ++ (vx_atS RX6 181 "java/lang/IndexOutOfBoundsException" ["java/lang/RuntimeException", "java/lang/Exception"]).filter goodWord ++ (vx_atS RX6 102 "java/lang/IllegalArgumentException" ["java/lang/RuntimeException", "java/lang/Exception"]).filter goodWord)
def wsX6_rowReference_r1 : List Cond := [Cond.fieldLink RX6 164 "ObjectMapper$Row" "reference" "I", Cond.methodLink RX6 159 yX6_checkedRow, Cond.instanceMethod yX6_checkedRow, Cond.selects RX6 yX6_checkedRow yX6_checkedRow, Cond.initialized RX6, Cond.code yX6_checkedRow cX6_checkedRow 4 (some (.object "ObjectMapper$Row")), Cond.classLink RX6 177 "java/lang/IndexOutOfBoundsException", Cond.initialized "java/lang/IndexOutOfBoundsException", Cond.fieldLink RX6 64 "ObjectMapper$Row" "there" "Z", Cond.methodLink RX6 49 yX6_checkKind, Cond.static yX6_checkKind, Cond.code yX6_checkKind cX6_checkKind 1 none, Cond.classLink RX6 98 "java/lang/IllegalArgumentException", Cond.initialized "java/lang/IllegalArgumentException", Cond.methodLink RX6 52 yX6_tableOf, Cond.instanceMethod yX6_tableOf, Cond.selects RX6 yX6_tableOf yX6_tableOf, Cond.code yX6_tableOf cX6_tableOf 2 (some (.object "ObjectMapper$Table")), Cond.fieldLink RX6 10 "ObjectMapper" "authorTable" "LObjectMapper$Table;", Cond.fieldLink RX6 16 "ObjectMapper" "bookTable" "LObjectMapper$Table;", Cond.methodLink RX6 56 yX5_rowAt, Cond.instanceMethod yX5_rowAt, Cond.selects RX5 yX5_rowAt yX5_rowAt, Cond.initialized RX5]
def wsX6_rowReference_r2 : List Cond := [Cond.code yX5_rowAt cX5_rowAt 2 (some (.object "ObjectMapper$Row")), Cond.fieldLink RX5 10 "ObjectMapper$Table" "places" "Ljava/util/ArrayList;", Cond.fieldLink RX5 19 "ObjectMapper$Table" "noRow" "LObjectMapper$Row;", Cond.classLink RX5 16 "ObjectMapper$Row", Cond.methodLink RX5 23 yJx4a65c_size_8abf5, Cond.instanceMethod yJx4a65c_size_8abf5, Cond.selects RJx4a65c yJx4a65c_size_8abf5 yJx4a65c_size_8abf5, Cond.initialized RJx4a65c, Cond.code yJx4a65c_size_8abf5 cJx4a65c_size_8abf5 1 (some .int), Cond.fieldLink RJx4a65c 48 "java/util/ArrayList" "size" "I", Cond.methodLink RX5 31 yJx4a65c_get_915e3, Cond.instanceMethod yJx4a65c_get_915e3, Cond.selects RJx4a65c yJx4a65c_get_915e3 yJx4a65c_get_915e3, Cond.code yJx4a65c_get_915e3 cJx4a65c_get_915e3 2 (some (.object "java/lang/Object")), Cond.methodLink RJx4a65c 118 yJ15_checkIndex_7cf53, Cond.static yJ15_checkIndex_7cf53, Cond.initialized RJ15, Cond.code yJ15_checkIndex_7cf53 cJ15_checkIndex_7cf53 2 (some .int), Cond.methodLink RJ15 105 yJ3_checkIndex_8e157, Cond.static yJ3_checkIndex_8e157, Cond.initialized RJ3, Cond.code yJ3_checkIndex_8e157 cJ3_checkIndex_8e157 3 (some .int), Cond.methodLink RJx4a65c 123 yJx4a65c_elementData_915e3, Cond.instanceMethod yJx4a65c_elementData_915e3]
def wsX6_rowReference_r3 : List Cond := [Cond.selects RJx4a65c yJx4a65c_elementData_915e3 yJx4a65c_elementData_915e3, Cond.code yJx4a65c_elementData_915e3 cJx4a65c_elementData_915e3 2 (some (.object "java/lang/Object")), Cond.fieldLink RJx4a65c 9 "java/util/ArrayList" "elementData" "[Ljava/lang/Object;"]
def wsX6_rowReference : List Cond := .code yX6_rowReference cX6_rowReference 3 (some .int) :: ((wsX6_rowReference_r1 ++ (wsX6_rowReference_r2 ++ wsX6_rowReference_r3)) ++ wsX30 ++ wsX60 ++ wsX50 ++ wsJx4a65c0 ++ (vx_atS RX6 181 "java/lang/IndexOutOfBoundsException" ["java/lang/RuntimeException", "java/lang/Exception"]).filter goodWord ++ (vx_atS RX6 102 "java/lang/IllegalArgumentException" ["java/lang/RuntimeException", "java/lang/Exception"]).filter goodWord)
def wsX6_rowVersion_r1 : List Cond := [Cond.fieldLink RX6 165 "ObjectMapper$Row" "version" "I", Cond.methodLink RX6 159 yX6_checkedRow, Cond.instanceMethod yX6_checkedRow, Cond.selects RX6 yX6_checkedRow yX6_checkedRow, Cond.initialized RX6, Cond.code yX6_checkedRow cX6_checkedRow 4 (some (.object "ObjectMapper$Row")), Cond.classLink RX6 177 "java/lang/IndexOutOfBoundsException", Cond.initialized "java/lang/IndexOutOfBoundsException", Cond.fieldLink RX6 64 "ObjectMapper$Row" "there" "Z", Cond.methodLink RX6 49 yX6_checkKind, Cond.static yX6_checkKind, Cond.code yX6_checkKind cX6_checkKind 1 none, Cond.classLink RX6 98 "java/lang/IllegalArgumentException", Cond.initialized "java/lang/IllegalArgumentException", Cond.methodLink RX6 52 yX6_tableOf, Cond.instanceMethod yX6_tableOf, Cond.selects RX6 yX6_tableOf yX6_tableOf, Cond.code yX6_tableOf cX6_tableOf 2 (some (.object "ObjectMapper$Table")), Cond.fieldLink RX6 10 "ObjectMapper" "authorTable" "LObjectMapper$Table;", Cond.fieldLink RX6 16 "ObjectMapper" "bookTable" "LObjectMapper$Table;", Cond.methodLink RX6 56 yX5_rowAt, Cond.instanceMethod yX5_rowAt, Cond.selects RX5 yX5_rowAt yX5_rowAt, Cond.initialized RX5]
def wsX6_rowVersion_r2 : List Cond := [Cond.code yX5_rowAt cX5_rowAt 2 (some (.object "ObjectMapper$Row")), Cond.fieldLink RX5 10 "ObjectMapper$Table" "places" "Ljava/util/ArrayList;", Cond.fieldLink RX5 19 "ObjectMapper$Table" "noRow" "LObjectMapper$Row;", Cond.classLink RX5 16 "ObjectMapper$Row", Cond.methodLink RX5 23 yJx4a65c_size_8abf5, Cond.instanceMethod yJx4a65c_size_8abf5, Cond.selects RJx4a65c yJx4a65c_size_8abf5 yJx4a65c_size_8abf5, Cond.initialized RJx4a65c, Cond.code yJx4a65c_size_8abf5 cJx4a65c_size_8abf5 1 (some .int), Cond.fieldLink RJx4a65c 48 "java/util/ArrayList" "size" "I", Cond.methodLink RX5 31 yJx4a65c_get_915e3, Cond.instanceMethod yJx4a65c_get_915e3, Cond.selects RJx4a65c yJx4a65c_get_915e3 yJx4a65c_get_915e3, Cond.code yJx4a65c_get_915e3 cJx4a65c_get_915e3 2 (some (.object "java/lang/Object")), Cond.methodLink RJx4a65c 118 yJ15_checkIndex_7cf53, Cond.static yJ15_checkIndex_7cf53, Cond.initialized RJ15, Cond.code yJ15_checkIndex_7cf53 cJ15_checkIndex_7cf53 2 (some .int), Cond.methodLink RJ15 105 yJ3_checkIndex_8e157, Cond.static yJ3_checkIndex_8e157, Cond.initialized RJ3, Cond.code yJ3_checkIndex_8e157 cJ3_checkIndex_8e157 3 (some .int), Cond.methodLink RJx4a65c 123 yJx4a65c_elementData_915e3, Cond.instanceMethod yJx4a65c_elementData_915e3]
def wsX6_rowVersion_r3 : List Cond := [Cond.selects RJx4a65c yJx4a65c_elementData_915e3 yJx4a65c_elementData_915e3, Cond.code yJx4a65c_elementData_915e3 cJx4a65c_elementData_915e3 2 (some (.object "java/lang/Object")), Cond.fieldLink RJx4a65c 9 "java/util/ArrayList" "elementData" "[Ljava/lang/Object;"]
def wsX6_rowVersion : List Cond := .code yX6_rowVersion cX6_rowVersion 3 (some .int) :: ((wsX6_rowVersion_r1 ++ (wsX6_rowVersion_r2 ++ wsX6_rowVersion_r3)) ++ wsX30 ++ wsX60 ++ wsX50 ++ wsJx4a65c0 ++ (vx_atS RX6 181 "java/lang/IndexOutOfBoundsException" ["java/lang/RuntimeException", "java/lang/Exception"]).filter goodWord ++ (vx_atS RX6 102 "java/lang/IllegalArgumentException" ["java/lang/RuntimeException", "java/lang/Exception"]).filter goodWord)
def wsX6_writes : List Cond := .code yX6_writes cX6_writes 1 (some .int) :: ([.fieldLink RX6 22 "ObjectMapper" "journal" "LObjectMapper$Journal;", .fieldLink RX6 146 "ObjectMapper$Journal" "size" "I"] ++ wsX60 ++ wsX20)
def wsX6_checkWrite : List Cond := .code yX6_checkWrite cX6_checkWrite 2 none :: ([.classLink RX6 177 "java/lang/IndexOutOfBoundsException", .initialized "java/lang/IndexOutOfBoundsException", .fieldLink RX6 22 "ObjectMapper" "journal" "LObjectMapper$Journal;", .fieldLink RX6 146 "ObjectMapper$Journal" "size" "I"] ++ wsX60 ++ wsX20 ++ (vx_atS RX6 181 "java/lang/IndexOutOfBoundsException" ["java/lang/RuntimeException", "java/lang/Exception"]).filter goodWord)
def wsX6_write : List Cond := .code yX6_write cX6_write 2 (some .int) :: ([.fieldLink RX6 22 "ObjectMapper" "journal" "LObjectMapper$Journal;", .methodLink RX6 168 yX6_checkWrite, .instanceMethod yX6_checkWrite, .selects RX6 yX6_checkWrite yX6_checkWrite, .initialized RX6, .code yX6_checkWrite cX6_checkWrite 2 none, .classLink RX6 177 "java/lang/IndexOutOfBoundsException", .initialized "java/lang/IndexOutOfBoundsException", .fieldLink RX6 146 "ObjectMapper$Journal" "size" "I", .methodLink RX6 171 yX2_actionAt, .instanceMethod yX2_actionAt, .selects RX2 yX2_actionAt yX2_actionAt, .initialized RX2, .code yX2_actionAt cX2_actionAt 2 (some .int), .fieldLink RX2 11 "ObjectMapper$Journal" "actions" "[I"] ++ wsX60 ++ wsX20 ++ (vx_atS RX6 181 "java/lang/IndexOutOfBoundsException" ["java/lang/RuntimeException", "java/lang/Exception"]).filter goodWord)
def wsX6_written : List Cond := .code yX6_written cX6_written 2 (some .int) :: ([.fieldLink RX6 22 "ObjectMapper" "journal" "LObjectMapper$Journal;", .methodLink RX6 168 yX6_checkWrite, .instanceMethod yX6_checkWrite, .selects RX6 yX6_checkWrite yX6_checkWrite, .initialized RX6, .code yX6_checkWrite cX6_checkWrite 2 none, .classLink RX6 177 "java/lang/IndexOutOfBoundsException", .initialized "java/lang/IndexOutOfBoundsException", .fieldLink RX6 146 "ObjectMapper$Journal" "size" "I", .methodLink RX6 174 yX2_rowNumberAt, .instanceMethod yX2_rowNumberAt, .selects RX2 yX2_rowNumberAt yX2_rowNumberAt, .initialized RX2, .code yX2_rowNumberAt cX2_rowNumberAt 2 (some .int), .fieldLink RX2 15 "ObjectMapper$Journal" "rowNumbers" "[I"] ++ wsX60 ++ wsX20 ++ (vx_atS RX6 181 "java/lang/IndexOutOfBoundsException" ["java/lang/RuntimeException", "java/lang/Exception"]).filter goodWord)
def wsX7_init : List Cond := .code yX7_init cX7_init 1 none :: ([.methodLink RX7 1 objectInit, .instanceMethod objectInit, .code objectInit ⟨#[0xb1]⟩ 1 none, .arrayClass .int, .fieldLink RX7 7 "ObjectMapperModel" "keys" "[I", .arrayClass .boolean, .fieldLink RX7 13 "ObjectMapperModel" "isRow" "[Z", .fieldLink RX7 17 "ObjectMapperModel" "rowNames" "[I", .fieldLink RX7 20 "ObjectMapperModel" "rowReferences" "[I", .fieldLink RX7 23 "ObjectMapperModel" "rowVersions" "[I", .fieldLink RX7 26 "ObjectMapperModel" "willBe" "[Z", .fieldLink RX7 29 "ObjectMapperModel" "states" "[I", .fieldLink RX7 32 "ObjectMapperModel" "isRemoved" "[Z", .fieldLink RX7 35 "ObjectMapperModel" "names" "[I", .fieldLink RX7 38 "ObjectMapperModel" "references" "[I", .fieldLink RX7 41 "ObjectMapperModel" "oldNames" "[I", .fieldLink RX7 44 "ObjectMapperModel" "oldReferences" "[I", .fieldLink RX7 47 "ObjectMapperModel" "oldVersions" "[I", .fieldLink RX7 50 "ObjectMapperModel" "written" "[I"] ++ wsX70)
def wsX7_thrown : List Cond := .code yX7_thrown cX7_thrown 1 (some .int) :: ([.fieldLink RX7 53 "ObjectMapperModel" "thrown" "I"] ++ wsX70)
def wsX7_holds : List Cond := .code yX7_holds cX7_holds 2 (some .boolean) :: ([.fieldLink RX7 53 "ObjectMapperModel" "thrown" "I"] ++ wsX70)
def wsX7_isSession : List Cond := .code yX7_isSession cX7_isSession 1 (some .boolean) :: ([])
def wsX7_isKind : List Cond := .code yX7_isKind cX7_isKind 1 (some .boolean) :: ([])
def wsX7_isName : List Cond := .code yX7_isName cX7_isName 1 (some .boolean) :: ([])
def wsX7_at : List Cond := .code yX7_at cX7_at 3 (some .int) :: ([])
def wsX7_row : List Cond := .code yX7_row cX7_row 2 (some .int) :: ([])
def wsX7_isKey : List Cond := .code yX7_isKey cX7_isKey 3 (some .boolean) :: ([.fieldLink RX7 7 "ObjectMapperModel" "keys" "[I"] ++ wsX70)
def wsX7_hasRow : List Cond := .code yX7_hasRow cX7_hasRow 3 (some .boolean) :: ([.fieldLink RX7 13 "ObjectMapperModel" "isRow" "[Z", .methodLink RX7 57 yX7_isKey, .instanceMethod yX7_isKey, .selects RX7 yX7_isKey yX7_isKey, .initialized RX7, .code yX7_isKey cX7_isKey 3 (some .boolean), .fieldLink RX7 7 "ObjectMapperModel" "keys" "[I", .methodLink RX7 61 yX7_row, .static yX7_row, .code yX7_row cX7_row 2 (some .int)] ++ wsX70)
def wsX7_knows : List Cond := .code yX7_knows cX7_knows 4 (some .boolean) :: ([.fieldLink RX7 29 "ObjectMapperModel" "states" "[I", .fieldLink RX7 32 "ObjectMapperModel" "isRemoved" "[Z", .methodLink RX7 57 yX7_isKey, .instanceMethod yX7_isKey, .selects RX7 yX7_isKey yX7_isKey, .initialized RX7, .code yX7_isKey cX7_isKey 3 (some .boolean), .fieldLink RX7 7 "ObjectMapperModel" "keys" "[I", .methodLink RX7 65 yX7_at, .static yX7_at, .code yX7_at cX7_at 3 (some .int)] ++ wsX70)
def wsX7_takes : List Cond := .code yX7_takes cX7_takes 6 none :: ([.fieldLink RX7 29 "ObjectMapperModel" "states" "[I", .fieldLink RX7 32 "ObjectMapperModel" "isRemoved" "[Z", .fieldLink RX7 35 "ObjectMapperModel" "names" "[I", .fieldLink RX7 17 "ObjectMapperModel" "rowNames" "[I", .fieldLink RX7 38 "ObjectMapperModel" "references" "[I", .fieldLink RX7 20 "ObjectMapperModel" "rowReferences" "[I", .fieldLink RX7 41 "ObjectMapperModel" "oldNames" "[I", .fieldLink RX7 44 "ObjectMapperModel" "oldReferences" "[I", .fieldLink RX7 47 "ObjectMapperModel" "oldVersions" "[I", .fieldLink RX7 23 "ObjectMapperModel" "rowVersions" "[I", .methodLink RX7 65 yX7_at, .static yX7_at, .initialized RX7, .code yX7_at cX7_at 3 (some .int), .methodLink RX7 61 yX7_row, .static yX7_row, .code yX7_row cX7_row 2 (some .int)] ++ wsX70)
def wsX7_loads_r1 : List Cond := [Cond.fieldLink RX7 7 "ObjectMapperModel" "keys" "[I", Cond.fieldLink RX7 20 "ObjectMapperModel" "rowReferences" "[I", Cond.fieldLink RX7 29 "ObjectMapperModel" "states" "[I", Cond.methodLink RX7 69 yX7_hasRow, Cond.instanceMethod yX7_hasRow, Cond.selects RX7 yX7_hasRow yX7_hasRow, Cond.initialized RX7, Cond.code yX7_hasRow cX7_hasRow 3 (some .boolean), Cond.fieldLink RX7 13 "ObjectMapperModel" "isRow" "[Z", Cond.methodLink RX7 57 yX7_isKey, Cond.instanceMethod yX7_isKey, Cond.selects RX7 yX7_isKey yX7_isKey, Cond.code yX7_isKey cX7_isKey 3 (some .boolean), Cond.methodLink RX7 61 yX7_row, Cond.static yX7_row, Cond.code yX7_row cX7_row 2 (some .int), Cond.methodLink RX7 65 yX7_at, Cond.static yX7_at, Cond.code yX7_at cX7_at 3 (some .int), Cond.methodLink RX7 72 yX7_takes, Cond.instanceMethod yX7_takes, Cond.selects RX7 yX7_takes yX7_takes, Cond.code yX7_takes cX7_takes 6 none, Cond.fieldLink RX7 32 "ObjectMapperModel" "isRemoved" "[Z"]
def wsX7_loads_r2 : List Cond := [Cond.fieldLink RX7 35 "ObjectMapperModel" "names" "[I", Cond.fieldLink RX7 17 "ObjectMapperModel" "rowNames" "[I", Cond.fieldLink RX7 38 "ObjectMapperModel" "references" "[I", Cond.fieldLink RX7 41 "ObjectMapperModel" "oldNames" "[I", Cond.fieldLink RX7 44 "ObjectMapperModel" "oldReferences" "[I", Cond.fieldLink RX7 47 "ObjectMapperModel" "oldVersions" "[I", Cond.fieldLink RX7 23 "ObjectMapperModel" "rowVersions" "[I"]
def wsX7_loads : List Cond := .code yX7_loads cX7_loads 6 none :: ((wsX7_loads_r1 ++ wsX7_loads_r2) ++ wsX70)
def wsX7_makes : List Cond := .code yX7_makes cX7_makes 7 (some .int) :: ([.fieldLink RX7 7 "ObjectMapperModel" "keys" "[I", .fieldLink RX7 29 "ObjectMapperModel" "states" "[I", .fieldLink RX7 32 "ObjectMapperModel" "isRemoved" "[Z", .fieldLink RX7 35 "ObjectMapperModel" "names" "[I", .fieldLink RX7 38 "ObjectMapperModel" "references" "[I", .methodLink RX7 65 yX7_at, .static yX7_at, .initialized RX7, .code yX7_at cX7_at 3 (some .int)] ++ wsX70)
def wsX7_makeAuthor : List Cond := .code yX7_makeAuthor cX7_makeAuthor 3 (some .int) :: ([.methodLink RX7 76 yX7_isSession, .static yX7_isSession, .initialized RX7, .code yX7_isSession cX7_isSession 1 (some .boolean), .methodLink RX7 80 yX7_isName, .static yX7_isName, .code yX7_isName cX7_isName 1 (some .boolean), .methodLink RX7 83 yX7_holds, .instanceMethod yX7_holds, .selects RX7 yX7_holds yX7_holds, .code yX7_holds cX7_holds 2 (some .boolean), .fieldLink RX7 53 "ObjectMapperModel" "thrown" "I", .methodLink RX7 86 yX7_makes, .instanceMethod yX7_makes, .selects RX7 yX7_makes yX7_makes, .code yX7_makes cX7_makes 7 (some .int), .fieldLink RX7 7 "ObjectMapperModel" "keys" "[I", .fieldLink RX7 29 "ObjectMapperModel" "states" "[I", .fieldLink RX7 32 "ObjectMapperModel" "isRemoved" "[Z", .fieldLink RX7 35 "ObjectMapperModel" "names" "[I", .fieldLink RX7 38 "ObjectMapperModel" "references" "[I", .methodLink RX7 65 yX7_at, .static yX7_at, .code yX7_at cX7_at 3 (some .int)] ++ wsX70)
def wsX7_makeBook_r1 : List Cond := [Cond.methodLink RX7 76 yX7_isSession, Cond.static yX7_isSession, Cond.initialized RX7, Cond.code yX7_isSession cX7_isSession 1 (some .boolean), Cond.methodLink RX7 80 yX7_isName, Cond.static yX7_isName, Cond.code yX7_isName cX7_isName 1 (some .boolean), Cond.methodLink RX7 90 yX7_knows, Cond.instanceMethod yX7_knows, Cond.selects RX7 yX7_knows yX7_knows, Cond.code yX7_knows cX7_knows 4 (some .boolean), Cond.fieldLink RX7 29 "ObjectMapperModel" "states" "[I", Cond.fieldLink RX7 32 "ObjectMapperModel" "isRemoved" "[Z", Cond.methodLink RX7 57 yX7_isKey, Cond.instanceMethod yX7_isKey, Cond.selects RX7 yX7_isKey yX7_isKey, Cond.code yX7_isKey cX7_isKey 3 (some .boolean), Cond.fieldLink RX7 7 "ObjectMapperModel" "keys" "[I", Cond.methodLink RX7 65 yX7_at, Cond.static yX7_at, Cond.code yX7_at cX7_at 3 (some .int), Cond.methodLink RX7 83 yX7_holds, Cond.instanceMethod yX7_holds, Cond.selects RX7 yX7_holds yX7_holds]
def wsX7_makeBook_r2 : List Cond := [Cond.code yX7_holds cX7_holds 2 (some .boolean), Cond.fieldLink RX7 53 "ObjectMapperModel" "thrown" "I", Cond.methodLink RX7 86 yX7_makes, Cond.instanceMethod yX7_makes, Cond.selects RX7 yX7_makes yX7_makes, Cond.code yX7_makes cX7_makes 7 (some .int), Cond.fieldLink RX7 35 "ObjectMapperModel" "names" "[I", Cond.fieldLink RX7 38 "ObjectMapperModel" "references" "[I"]
def wsX7_makeBook : List Cond := .code yX7_makeBook cX7_makeBook 5 (some .int) :: ((wsX7_makeBook_r1 ++ wsX7_makeBook_r2) ++ wsX70)
def wsX7_find_r1 : List Cond := [Cond.fieldLink RX7 29 "ObjectMapperModel" "states" "[I", Cond.methodLink RX7 76 yX7_isSession, Cond.static yX7_isSession, Cond.initialized RX7, Cond.code yX7_isSession cX7_isSession 1 (some .boolean), Cond.methodLink RX7 94 yX7_isKind, Cond.static yX7_isKind, Cond.code yX7_isKind cX7_isKind 1 (some .boolean), Cond.methodLink RX7 83 yX7_holds, Cond.instanceMethod yX7_holds, Cond.selects RX7 yX7_holds yX7_holds, Cond.code yX7_holds cX7_holds 2 (some .boolean), Cond.fieldLink RX7 53 "ObjectMapperModel" "thrown" "I", Cond.methodLink RX7 69 yX7_hasRow, Cond.instanceMethod yX7_hasRow, Cond.selects RX7 yX7_hasRow yX7_hasRow, Cond.code yX7_hasRow cX7_hasRow 3 (some .boolean), Cond.fieldLink RX7 13 "ObjectMapperModel" "isRow" "[Z", Cond.methodLink RX7 57 yX7_isKey, Cond.instanceMethod yX7_isKey, Cond.selects RX7 yX7_isKey yX7_isKey, Cond.code yX7_isKey cX7_isKey 3 (some .boolean), Cond.fieldLink RX7 7 "ObjectMapperModel" "keys" "[I", Cond.methodLink RX7 61 yX7_row]
def wsX7_find_r2 : List Cond := [Cond.static yX7_row, Cond.code yX7_row cX7_row 2 (some .int), Cond.methodLink RX7 65 yX7_at, Cond.static yX7_at, Cond.code yX7_at cX7_at 3 (some .int), Cond.methodLink RX7 72 yX7_takes, Cond.instanceMethod yX7_takes, Cond.selects RX7 yX7_takes yX7_takes, Cond.code yX7_takes cX7_takes 6 none, Cond.fieldLink RX7 32 "ObjectMapperModel" "isRemoved" "[Z", Cond.fieldLink RX7 35 "ObjectMapperModel" "names" "[I", Cond.fieldLink RX7 17 "ObjectMapperModel" "rowNames" "[I", Cond.fieldLink RX7 38 "ObjectMapperModel" "references" "[I", Cond.fieldLink RX7 20 "ObjectMapperModel" "rowReferences" "[I", Cond.fieldLink RX7 41 "ObjectMapperModel" "oldNames" "[I", Cond.fieldLink RX7 44 "ObjectMapperModel" "oldReferences" "[I", Cond.fieldLink RX7 47 "ObjectMapperModel" "oldVersions" "[I", Cond.fieldLink RX7 23 "ObjectMapperModel" "rowVersions" "[I", Cond.methodLink RX7 90 yX7_knows, Cond.instanceMethod yX7_knows, Cond.selects RX7 yX7_knows yX7_knows, Cond.code yX7_knows cX7_knows 4 (some .boolean)]
def wsX7_find : List Cond := .code yX7_find cX7_find 4 (some .boolean) :: ((wsX7_find_r1 ++ wsX7_find_r2) ++ wsX70)
def wsX7_countOf : List Cond := .code yX7_countOf cX7_countOf 5 (some .int) :: ([.fieldLink RX7 7 "ObjectMapperModel" "keys" "[I", .fieldLink RX7 38 "ObjectMapperModel" "references" "[I", .methodLink RX7 90 yX7_knows, .instanceMethod yX7_knows, .selects RX7 yX7_knows yX7_knows, .initialized RX7, .code yX7_knows cX7_knows 4 (some .boolean), .fieldLink RX7 29 "ObjectMapperModel" "states" "[I", .fieldLink RX7 32 "ObjectMapperModel" "isRemoved" "[Z", .methodLink RX7 57 yX7_isKey, .instanceMethod yX7_isKey, .selects RX7 yX7_isKey yX7_isKey, .code yX7_isKey cX7_isKey 3 (some .boolean), .methodLink RX7 65 yX7_at, .static yX7_at, .code yX7_at cX7_at 3 (some .int)] ++ wsX70)
def wsX7_books_r1 : List Cond := [Cond.methodLink RX7 76 yX7_isSession, Cond.static yX7_isSession, Cond.initialized RX7, Cond.code yX7_isSession cX7_isSession 1 (some .boolean), Cond.methodLink RX7 90 yX7_knows, Cond.instanceMethod yX7_knows, Cond.selects RX7 yX7_knows yX7_knows, Cond.code yX7_knows cX7_knows 4 (some .boolean), Cond.fieldLink RX7 29 "ObjectMapperModel" "states" "[I", Cond.fieldLink RX7 32 "ObjectMapperModel" "isRemoved" "[Z", Cond.methodLink RX7 57 yX7_isKey, Cond.instanceMethod yX7_isKey, Cond.selects RX7 yX7_isKey yX7_isKey, Cond.code yX7_isKey cX7_isKey 3 (some .boolean), Cond.fieldLink RX7 7 "ObjectMapperModel" "keys" "[I", Cond.methodLink RX7 65 yX7_at, Cond.static yX7_at, Cond.code yX7_at cX7_at 3 (some .int), Cond.methodLink RX7 83 yX7_holds, Cond.instanceMethod yX7_holds, Cond.selects RX7 yX7_holds yX7_holds, Cond.code yX7_holds cX7_holds 2 (some .boolean), Cond.fieldLink RX7 53 "ObjectMapperModel" "thrown" "I", Cond.methodLink RX7 97 yX7_loads]
def wsX7_books_r2 : List Cond := [Cond.instanceMethod yX7_loads, Cond.selects RX7 yX7_loads yX7_loads, Cond.code yX7_loads cX7_loads 6 none, Cond.fieldLink RX7 20 "ObjectMapperModel" "rowReferences" "[I", Cond.methodLink RX7 69 yX7_hasRow, Cond.instanceMethod yX7_hasRow, Cond.selects RX7 yX7_hasRow yX7_hasRow, Cond.code yX7_hasRow cX7_hasRow 3 (some .boolean), Cond.fieldLink RX7 13 "ObjectMapperModel" "isRow" "[Z", Cond.methodLink RX7 61 yX7_row, Cond.static yX7_row, Cond.code yX7_row cX7_row 2 (some .int), Cond.methodLink RX7 72 yX7_takes, Cond.instanceMethod yX7_takes, Cond.selects RX7 yX7_takes yX7_takes, Cond.code yX7_takes cX7_takes 6 none, Cond.fieldLink RX7 35 "ObjectMapperModel" "names" "[I", Cond.fieldLink RX7 17 "ObjectMapperModel" "rowNames" "[I", Cond.fieldLink RX7 38 "ObjectMapperModel" "references" "[I", Cond.fieldLink RX7 41 "ObjectMapperModel" "oldNames" "[I", Cond.fieldLink RX7 44 "ObjectMapperModel" "oldReferences" "[I", Cond.fieldLink RX7 47 "ObjectMapperModel" "oldVersions" "[I", Cond.fieldLink RX7 23 "ObjectMapperModel" "rowVersions" "[I", Cond.methodLink RX7 100 yX7_countOf]
def wsX7_books_r3 : List Cond := [Cond.instanceMethod yX7_countOf, Cond.selects RX7 yX7_countOf yX7_countOf, Cond.code yX7_countOf cX7_countOf 5 (some .int)]
def wsX7_books : List Cond := .code yX7_books cX7_books 4 (some .int) :: ((wsX7_books_r1 ++ (wsX7_books_r2 ++ wsX7_books_r3)) ++ wsX70)
def wsX7_isAsked_r1 : List Cond := [Cond.methodLink RX7 76 yX7_isSession, Cond.static yX7_isSession, Cond.initialized RX7, Cond.code yX7_isSession cX7_isSession 1 (some .boolean), Cond.methodLink RX7 94 yX7_isKind, Cond.static yX7_isKind, Cond.code yX7_isKind cX7_isKind 1 (some .boolean), Cond.methodLink RX7 90 yX7_knows, Cond.instanceMethod yX7_knows, Cond.selects RX7 yX7_knows yX7_knows, Cond.code yX7_knows cX7_knows 4 (some .boolean), Cond.fieldLink RX7 29 "ObjectMapperModel" "states" "[I", Cond.fieldLink RX7 32 "ObjectMapperModel" "isRemoved" "[Z", Cond.methodLink RX7 57 yX7_isKey, Cond.instanceMethod yX7_isKey, Cond.selects RX7 yX7_isKey yX7_isKey, Cond.code yX7_isKey cX7_isKey 3 (some .boolean), Cond.fieldLink RX7 7 "ObjectMapperModel" "keys" "[I", Cond.methodLink RX7 65 yX7_at, Cond.static yX7_at, Cond.code yX7_at cX7_at 3 (some .int), Cond.methodLink RX7 83 yX7_holds, Cond.instanceMethod yX7_holds, Cond.selects RX7 yX7_holds yX7_holds]
def wsX7_isAsked_r2 : List Cond := [Cond.code yX7_holds cX7_holds 2 (some .boolean), Cond.fieldLink RX7 53 "ObjectMapperModel" "thrown" "I"]
def wsX7_isAsked : List Cond := .code yX7_isAsked cX7_isAsked 7 (some .boolean) :: ((wsX7_isAsked_r1 ++ wsX7_isAsked_r2) ++ wsX70)
def wsX7_setName_r1 : List Cond := [Cond.fieldLink RX7 35 "ObjectMapperModel" "names" "[I", Cond.methodLink RX7 80 yX7_isName, Cond.static yX7_isName, Cond.initialized RX7, Cond.code yX7_isName cX7_isName 1 (some .boolean), Cond.methodLink RX7 103 yX7_isAsked, Cond.instanceMethod yX7_isAsked, Cond.selects RX7 yX7_isAsked yX7_isAsked, Cond.code yX7_isAsked cX7_isAsked 7 (some .boolean), Cond.methodLink RX7 76 yX7_isSession, Cond.static yX7_isSession, Cond.code yX7_isSession cX7_isSession 1 (some .boolean), Cond.methodLink RX7 94 yX7_isKind, Cond.static yX7_isKind, Cond.code yX7_isKind cX7_isKind 1 (some .boolean), Cond.methodLink RX7 90 yX7_knows, Cond.instanceMethod yX7_knows, Cond.selects RX7 yX7_knows yX7_knows, Cond.code yX7_knows cX7_knows 4 (some .boolean), Cond.fieldLink RX7 29 "ObjectMapperModel" "states" "[I", Cond.fieldLink RX7 32 "ObjectMapperModel" "isRemoved" "[Z", Cond.methodLink RX7 57 yX7_isKey, Cond.instanceMethod yX7_isKey, Cond.selects RX7 yX7_isKey yX7_isKey]
def wsX7_setName_r2 : List Cond := [Cond.code yX7_isKey cX7_isKey 3 (some .boolean), Cond.fieldLink RX7 7 "ObjectMapperModel" "keys" "[I", Cond.methodLink RX7 65 yX7_at, Cond.static yX7_at, Cond.code yX7_at cX7_at 3 (some .int), Cond.methodLink RX7 83 yX7_holds, Cond.instanceMethod yX7_holds, Cond.selects RX7 yX7_holds yX7_holds, Cond.code yX7_holds cX7_holds 2 (some .boolean), Cond.fieldLink RX7 53 "ObjectMapperModel" "thrown" "I"]
def wsX7_setName : List Cond := .code yX7_setName cX7_setName 5 none :: ((wsX7_setName_r1 ++ wsX7_setName_r2) ++ wsX70)
def wsX7_setReference_r1 : List Cond := [Cond.fieldLink RX7 38 "ObjectMapperModel" "references" "[I", Cond.methodLink RX7 103 yX7_isAsked, Cond.instanceMethod yX7_isAsked, Cond.selects RX7 yX7_isAsked yX7_isAsked, Cond.initialized RX7, Cond.code yX7_isAsked cX7_isAsked 7 (some .boolean), Cond.methodLink RX7 76 yX7_isSession, Cond.static yX7_isSession, Cond.code yX7_isSession cX7_isSession 1 (some .boolean), Cond.methodLink RX7 94 yX7_isKind, Cond.static yX7_isKind, Cond.code yX7_isKind cX7_isKind 1 (some .boolean), Cond.methodLink RX7 90 yX7_knows, Cond.instanceMethod yX7_knows, Cond.selects RX7 yX7_knows yX7_knows, Cond.code yX7_knows cX7_knows 4 (some .boolean), Cond.fieldLink RX7 29 "ObjectMapperModel" "states" "[I", Cond.fieldLink RX7 32 "ObjectMapperModel" "isRemoved" "[Z", Cond.methodLink RX7 57 yX7_isKey, Cond.instanceMethod yX7_isKey, Cond.selects RX7 yX7_isKey yX7_isKey, Cond.code yX7_isKey cX7_isKey 3 (some .boolean), Cond.fieldLink RX7 7 "ObjectMapperModel" "keys" "[I", Cond.methodLink RX7 65 yX7_at]
def wsX7_setReference_r2 : List Cond := [Cond.static yX7_at, Cond.code yX7_at cX7_at 3 (some .int), Cond.methodLink RX7 83 yX7_holds, Cond.instanceMethod yX7_holds, Cond.selects RX7 yX7_holds yX7_holds, Cond.code yX7_holds cX7_holds 2 (some .boolean), Cond.fieldLink RX7 53 "ObjectMapperModel" "thrown" "I"]
def wsX7_setReference : List Cond := .code yX7_setReference cX7_setReference 7 none :: ((wsX7_setReference_r1 ++ wsX7_setReference_r2) ++ wsX70)
def wsX7_goes : List Cond := .code yX7_goes cX7_goes 5 none :: ([.fieldLink RX7 32 "ObjectMapperModel" "isRemoved" "[Z", .fieldLink RX7 29 "ObjectMapperModel" "states" "[I", .methodLink RX7 65 yX7_at, .static yX7_at, .initialized RX7, .code yX7_at cX7_at 3 (some .int)] ++ wsX70)
def wsX7_removesBook_r1 : List Cond := [Cond.fieldLink RX7 7 "ObjectMapperModel" "keys" "[I", Cond.fieldLink RX7 38 "ObjectMapperModel" "references" "[I", Cond.methodLink RX7 107 yX7_goes, Cond.instanceMethod yX7_goes, Cond.selects RX7 yX7_goes yX7_goes, Cond.initialized RX7, Cond.code yX7_goes cX7_goes 5 none, Cond.fieldLink RX7 32 "ObjectMapperModel" "isRemoved" "[Z", Cond.fieldLink RX7 29 "ObjectMapperModel" "states" "[I", Cond.methodLink RX7 65 yX7_at, Cond.static yX7_at, Cond.code yX7_at cX7_at 3 (some .int), Cond.methodLink RX7 97 yX7_loads, Cond.instanceMethod yX7_loads, Cond.selects RX7 yX7_loads yX7_loads, Cond.code yX7_loads cX7_loads 6 none, Cond.fieldLink RX7 20 "ObjectMapperModel" "rowReferences" "[I", Cond.methodLink RX7 69 yX7_hasRow, Cond.instanceMethod yX7_hasRow, Cond.selects RX7 yX7_hasRow yX7_hasRow, Cond.code yX7_hasRow cX7_hasRow 3 (some .boolean), Cond.fieldLink RX7 13 "ObjectMapperModel" "isRow" "[Z", Cond.methodLink RX7 57 yX7_isKey, Cond.instanceMethod yX7_isKey]
def wsX7_removesBook_r2 : List Cond := [Cond.selects RX7 yX7_isKey yX7_isKey, Cond.code yX7_isKey cX7_isKey 3 (some .boolean), Cond.methodLink RX7 61 yX7_row, Cond.static yX7_row, Cond.code yX7_row cX7_row 2 (some .int), Cond.methodLink RX7 72 yX7_takes, Cond.instanceMethod yX7_takes, Cond.selects RX7 yX7_takes yX7_takes, Cond.code yX7_takes cX7_takes 6 none, Cond.fieldLink RX7 35 "ObjectMapperModel" "names" "[I", Cond.fieldLink RX7 17 "ObjectMapperModel" "rowNames" "[I", Cond.fieldLink RX7 41 "ObjectMapperModel" "oldNames" "[I", Cond.fieldLink RX7 44 "ObjectMapperModel" "oldReferences" "[I", Cond.fieldLink RX7 47 "ObjectMapperModel" "oldVersions" "[I", Cond.fieldLink RX7 23 "ObjectMapperModel" "rowVersions" "[I", Cond.methodLink RX7 90 yX7_knows, Cond.instanceMethod yX7_knows, Cond.selects RX7 yX7_knows yX7_knows, Cond.code yX7_knows cX7_knows 4 (some .boolean)]
def wsX7_removesBook : List Cond := .code yX7_removesBook cX7_removesBook 5 none :: ((wsX7_removesBook_r1 ++ wsX7_removesBook_r2) ++ wsX70)
def wsX7_remove_r1 : List Cond := [Cond.fieldLink RX7 7 "ObjectMapperModel" "keys" "[I", Cond.fieldLink RX7 38 "ObjectMapperModel" "references" "[I", Cond.methodLink RX7 103 yX7_isAsked, Cond.instanceMethod yX7_isAsked, Cond.selects RX7 yX7_isAsked yX7_isAsked, Cond.initialized RX7, Cond.code yX7_isAsked cX7_isAsked 7 (some .boolean), Cond.methodLink RX7 76 yX7_isSession, Cond.static yX7_isSession, Cond.code yX7_isSession cX7_isSession 1 (some .boolean), Cond.methodLink RX7 94 yX7_isKind, Cond.static yX7_isKind, Cond.code yX7_isKind cX7_isKind 1 (some .boolean), Cond.methodLink RX7 90 yX7_knows, Cond.instanceMethod yX7_knows, Cond.selects RX7 yX7_knows yX7_knows, Cond.code yX7_knows cX7_knows 4 (some .boolean), Cond.fieldLink RX7 29 "ObjectMapperModel" "states" "[I", Cond.fieldLink RX7 32 "ObjectMapperModel" "isRemoved" "[Z", Cond.methodLink RX7 57 yX7_isKey, Cond.instanceMethod yX7_isKey, Cond.selects RX7 yX7_isKey yX7_isKey, Cond.code yX7_isKey cX7_isKey 3 (some .boolean), Cond.methodLink RX7 65 yX7_at]
def wsX7_remove_r2 : List Cond := [Cond.static yX7_at, Cond.code yX7_at cX7_at 3 (some .int), Cond.methodLink RX7 83 yX7_holds, Cond.instanceMethod yX7_holds, Cond.selects RX7 yX7_holds yX7_holds, Cond.code yX7_holds cX7_holds 2 (some .boolean), Cond.fieldLink RX7 53 "ObjectMapperModel" "thrown" "I", Cond.methodLink RX7 110 yX7_removesBook, Cond.instanceMethod yX7_removesBook, Cond.selects RX7 yX7_removesBook yX7_removesBook, Cond.code yX7_removesBook cX7_removesBook 5 none, Cond.methodLink RX7 107 yX7_goes, Cond.instanceMethod yX7_goes, Cond.selects RX7 yX7_goes yX7_goes, Cond.code yX7_goes cX7_goes 5 none, Cond.methodLink RX7 97 yX7_loads, Cond.instanceMethod yX7_loads, Cond.selects RX7 yX7_loads yX7_loads, Cond.code yX7_loads cX7_loads 6 none, Cond.fieldLink RX7 20 "ObjectMapperModel" "rowReferences" "[I", Cond.methodLink RX7 69 yX7_hasRow, Cond.instanceMethod yX7_hasRow, Cond.selects RX7 yX7_hasRow yX7_hasRow, Cond.code yX7_hasRow cX7_hasRow 3 (some .boolean)]
def wsX7_remove_r3 : List Cond := [Cond.fieldLink RX7 13 "ObjectMapperModel" "isRow" "[Z", Cond.methodLink RX7 61 yX7_row, Cond.static yX7_row, Cond.code yX7_row cX7_row 2 (some .int), Cond.methodLink RX7 72 yX7_takes, Cond.instanceMethod yX7_takes, Cond.selects RX7 yX7_takes yX7_takes, Cond.code yX7_takes cX7_takes 6 none, Cond.fieldLink RX7 35 "ObjectMapperModel" "names" "[I", Cond.fieldLink RX7 17 "ObjectMapperModel" "rowNames" "[I", Cond.fieldLink RX7 41 "ObjectMapperModel" "oldNames" "[I", Cond.fieldLink RX7 44 "ObjectMapperModel" "oldReferences" "[I", Cond.fieldLink RX7 47 "ObjectMapperModel" "oldVersions" "[I", Cond.fieldLink RX7 23 "ObjectMapperModel" "rowVersions" "[I"]
def wsX7_remove : List Cond := .code yX7_remove cX7_remove 6 (some .int) :: ((wsX7_remove_r1 ++ (wsX7_remove_r2 ++ wsX7_remove_r3)) ++ wsX70)
def wsX7_name_r1 : List Cond := [Cond.fieldLink RX7 35 "ObjectMapperModel" "names" "[I", Cond.methodLink RX7 103 yX7_isAsked, Cond.instanceMethod yX7_isAsked, Cond.selects RX7 yX7_isAsked yX7_isAsked, Cond.initialized RX7, Cond.code yX7_isAsked cX7_isAsked 7 (some .boolean), Cond.methodLink RX7 76 yX7_isSession, Cond.static yX7_isSession, Cond.code yX7_isSession cX7_isSession 1 (some .boolean), Cond.methodLink RX7 94 yX7_isKind, Cond.static yX7_isKind, Cond.code yX7_isKind cX7_isKind 1 (some .boolean), Cond.methodLink RX7 90 yX7_knows, Cond.instanceMethod yX7_knows, Cond.selects RX7 yX7_knows yX7_knows, Cond.code yX7_knows cX7_knows 4 (some .boolean), Cond.fieldLink RX7 29 "ObjectMapperModel" "states" "[I", Cond.fieldLink RX7 32 "ObjectMapperModel" "isRemoved" "[Z", Cond.methodLink RX7 57 yX7_isKey, Cond.instanceMethod yX7_isKey, Cond.selects RX7 yX7_isKey yX7_isKey, Cond.code yX7_isKey cX7_isKey 3 (some .boolean), Cond.fieldLink RX7 7 "ObjectMapperModel" "keys" "[I", Cond.methodLink RX7 65 yX7_at]
def wsX7_name_r2 : List Cond := [Cond.static yX7_at, Cond.code yX7_at cX7_at 3 (some .int), Cond.methodLink RX7 83 yX7_holds, Cond.instanceMethod yX7_holds, Cond.selects RX7 yX7_holds yX7_holds, Cond.code yX7_holds cX7_holds 2 (some .boolean), Cond.fieldLink RX7 53 "ObjectMapperModel" "thrown" "I"]
def wsX7_name : List Cond := .code yX7_name cX7_name 4 (some .int) :: ((wsX7_name_r1 ++ wsX7_name_r2) ++ wsX70)
def wsX7_reference_r1 : List Cond := [Cond.fieldLink RX7 38 "ObjectMapperModel" "references" "[I", Cond.methodLink RX7 103 yX7_isAsked, Cond.instanceMethod yX7_isAsked, Cond.selects RX7 yX7_isAsked yX7_isAsked, Cond.initialized RX7, Cond.code yX7_isAsked cX7_isAsked 7 (some .boolean), Cond.methodLink RX7 76 yX7_isSession, Cond.static yX7_isSession, Cond.code yX7_isSession cX7_isSession 1 (some .boolean), Cond.methodLink RX7 94 yX7_isKind, Cond.static yX7_isKind, Cond.code yX7_isKind cX7_isKind 1 (some .boolean), Cond.methodLink RX7 90 yX7_knows, Cond.instanceMethod yX7_knows, Cond.selects RX7 yX7_knows yX7_knows, Cond.code yX7_knows cX7_knows 4 (some .boolean), Cond.fieldLink RX7 29 "ObjectMapperModel" "states" "[I", Cond.fieldLink RX7 32 "ObjectMapperModel" "isRemoved" "[Z", Cond.methodLink RX7 57 yX7_isKey, Cond.instanceMethod yX7_isKey, Cond.selects RX7 yX7_isKey yX7_isKey, Cond.code yX7_isKey cX7_isKey 3 (some .boolean), Cond.fieldLink RX7 7 "ObjectMapperModel" "keys" "[I", Cond.methodLink RX7 65 yX7_at]
def wsX7_reference_r2 : List Cond := [Cond.static yX7_at, Cond.code yX7_at cX7_at 3 (some .int), Cond.methodLink RX7 83 yX7_holds, Cond.instanceMethod yX7_holds, Cond.selects RX7 yX7_holds yX7_holds, Cond.code yX7_holds cX7_holds 2 (some .boolean), Cond.fieldLink RX7 53 "ObjectMapperModel" "thrown" "I"]
def wsX7_reference : List Cond := .code yX7_reference cX7_reference 4 (some .int) :: ((wsX7_reference_r1 ++ wsX7_reference_r2) ++ wsX70)
def wsX7_knownOf : List Cond := .code yX7_knownOf cX7_knownOf 5 (some .int) :: ([.fieldLink RX7 7 "ObjectMapperModel" "keys" "[I", .methodLink RX7 90 yX7_knows, .instanceMethod yX7_knows, .selects RX7 yX7_knows yX7_knows, .initialized RX7, .code yX7_knows cX7_knows 4 (some .boolean), .fieldLink RX7 29 "ObjectMapperModel" "states" "[I", .fieldLink RX7 32 "ObjectMapperModel" "isRemoved" "[Z", .methodLink RX7 57 yX7_isKey, .instanceMethod yX7_isKey, .selects RX7 yX7_isKey yX7_isKey, .code yX7_isKey cX7_isKey 3 (some .boolean), .methodLink RX7 65 yX7_at, .static yX7_at, .code yX7_at cX7_at 3 (some .int)] ++ wsX70)
def wsX7_known_r1 : List Cond := [Cond.methodLink RX7 76 yX7_isSession, Cond.static yX7_isSession, Cond.initialized RX7, Cond.code yX7_isSession cX7_isSession 1 (some .boolean), Cond.methodLink RX7 83 yX7_holds, Cond.instanceMethod yX7_holds, Cond.selects RX7 yX7_holds yX7_holds, Cond.code yX7_holds cX7_holds 2 (some .boolean), Cond.fieldLink RX7 53 "ObjectMapperModel" "thrown" "I", Cond.methodLink RX7 114 yX7_knownOf, Cond.instanceMethod yX7_knownOf, Cond.selects RX7 yX7_knownOf yX7_knownOf, Cond.code yX7_knownOf cX7_knownOf 5 (some .int), Cond.fieldLink RX7 7 "ObjectMapperModel" "keys" "[I", Cond.methodLink RX7 90 yX7_knows, Cond.instanceMethod yX7_knows, Cond.selects RX7 yX7_knows yX7_knows, Cond.code yX7_knows cX7_knows 4 (some .boolean), Cond.fieldLink RX7 29 "ObjectMapperModel" "states" "[I", Cond.fieldLink RX7 32 "ObjectMapperModel" "isRemoved" "[Z", Cond.methodLink RX7 57 yX7_isKey, Cond.instanceMethod yX7_isKey, Cond.selects RX7 yX7_isKey yX7_isKey, Cond.code yX7_isKey cX7_isKey 3 (some .boolean)]
def wsX7_known_r2 : List Cond := [Cond.methodLink RX7 65 yX7_at, Cond.static yX7_at, Cond.code yX7_at cX7_at 3 (some .int)]
def wsX7_known : List Cond := .code yX7_known cX7_known 2 (some .int) :: ((wsX7_known_r1 ++ wsX7_known_r2) ++ wsX70)
def wsX7_isDirty : List Cond := .code yX7_isDirty cX7_isDirty 5 (some .boolean) :: ([.fieldLink RX7 29 "ObjectMapperModel" "states" "[I", .fieldLink RX7 35 "ObjectMapperModel" "names" "[I", .fieldLink RX7 41 "ObjectMapperModel" "oldNames" "[I", .fieldLink RX7 38 "ObjectMapperModel" "references" "[I", .fieldLink RX7 44 "ObjectMapperModel" "oldReferences" "[I", .methodLink RX7 65 yX7_at, .static yX7_at, .initialized RX7, .code yX7_at cX7_at 3 (some .int), .methodLink RX7 90 yX7_knows, .instanceMethod yX7_knows, .selects RX7 yX7_knows yX7_knows, .code yX7_knows cX7_knows 4 (some .boolean), .fieldLink RX7 32 "ObjectMapperModel" "isRemoved" "[Z", .methodLink RX7 57 yX7_isKey, .instanceMethod yX7_isKey, .selects RX7 yX7_isKey yX7_isKey, .code yX7_isKey cX7_isKey 3 (some .boolean), .fieldLink RX7 7 "ObjectMapperModel" "keys" "[I"] ++ wsX70)
def wsX7_dirty_r1 : List Cond := [Cond.fieldLink RX7 7 "ObjectMapperModel" "keys" "[I", Cond.methodLink RX7 76 yX7_isSession, Cond.static yX7_isSession, Cond.initialized RX7, Cond.code yX7_isSession cX7_isSession 1 (some .boolean), Cond.methodLink RX7 83 yX7_holds, Cond.instanceMethod yX7_holds, Cond.selects RX7 yX7_holds yX7_holds, Cond.code yX7_holds cX7_holds 2 (some .boolean), Cond.fieldLink RX7 53 "ObjectMapperModel" "thrown" "I", Cond.methodLink RX7 118 yX7_isDirty, Cond.instanceMethod yX7_isDirty, Cond.selects RX7 yX7_isDirty yX7_isDirty, Cond.code yX7_isDirty cX7_isDirty 5 (some .boolean), Cond.fieldLink RX7 29 "ObjectMapperModel" "states" "[I", Cond.fieldLink RX7 35 "ObjectMapperModel" "names" "[I", Cond.fieldLink RX7 41 "ObjectMapperModel" "oldNames" "[I", Cond.fieldLink RX7 38 "ObjectMapperModel" "references" "[I", Cond.fieldLink RX7 44 "ObjectMapperModel" "oldReferences" "[I", Cond.methodLink RX7 65 yX7_at, Cond.static yX7_at, Cond.code yX7_at cX7_at 3 (some .int), Cond.methodLink RX7 90 yX7_knows, Cond.instanceMethod yX7_knows]
def wsX7_dirty_r2 : List Cond := [Cond.selects RX7 yX7_knows yX7_knows, Cond.code yX7_knows cX7_knows 4 (some .boolean), Cond.fieldLink RX7 32 "ObjectMapperModel" "isRemoved" "[Z", Cond.methodLink RX7 57 yX7_isKey, Cond.instanceMethod yX7_isKey, Cond.selects RX7 yX7_isKey yX7_isKey, Cond.code yX7_isKey cX7_isKey 3 (some .boolean)]
def wsX7_dirty : List Cond := .code yX7_dirty cX7_dirty 5 (some .int) :: ((wsX7_dirty_r1 ++ wsX7_dirty_r2) ++ wsX70)
def wsX7_isMade : List Cond := .code yX7_isMade cX7_isMade 4 (some .boolean) :: ([.fieldLink RX7 29 "ObjectMapperModel" "states" "[I", .methodLink RX7 65 yX7_at, .static yX7_at, .initialized RX7, .code yX7_at cX7_at 3 (some .int)] ++ wsX70)
def wsX7_isGone : List Cond := .code yX7_isGone cX7_isGone 4 (some .boolean) :: ([.fieldLink RX7 29 "ObjectMapperModel" "states" "[I", .fieldLink RX7 32 "ObjectMapperModel" "isRemoved" "[Z", .methodLink RX7 65 yX7_at, .static yX7_at, .initialized RX7, .code yX7_at cX7_at 3 (some .int)] ++ wsX70)
def wsX7_areThere_r1 : List Cond := [Cond.fieldLink RX7 7 "ObjectMapperModel" "keys" "[I", Cond.fieldLink RX7 23 "ObjectMapperModel" "rowVersions" "[I", Cond.fieldLink RX7 47 "ObjectMapperModel" "oldVersions" "[I", Cond.fieldLink RX7 26 "ObjectMapperModel" "willBe" "[Z", Cond.methodLink RX7 121 yX7_isGone, Cond.instanceMethod yX7_isGone, Cond.selects RX7 yX7_isGone yX7_isGone, Cond.initialized RX7, Cond.code yX7_isGone cX7_isGone 4 (some .boolean), Cond.fieldLink RX7 29 "ObjectMapperModel" "states" "[I", Cond.fieldLink RX7 32 "ObjectMapperModel" "isRemoved" "[Z", Cond.methodLink RX7 65 yX7_at, Cond.static yX7_at, Cond.code yX7_at cX7_at 3 (some .int), Cond.methodLink RX7 69 yX7_hasRow, Cond.instanceMethod yX7_hasRow, Cond.selects RX7 yX7_hasRow yX7_hasRow, Cond.code yX7_hasRow cX7_hasRow 3 (some .boolean), Cond.fieldLink RX7 13 "ObjectMapperModel" "isRow" "[Z", Cond.methodLink RX7 57 yX7_isKey, Cond.instanceMethod yX7_isKey, Cond.selects RX7 yX7_isKey yX7_isKey, Cond.code yX7_isKey cX7_isKey 3 (some .boolean), Cond.methodLink RX7 61 yX7_row]
def wsX7_areThere_r2 : List Cond := [Cond.static yX7_row, Cond.code yX7_row cX7_row 2 (some .int), Cond.methodLink RX7 118 yX7_isDirty, Cond.instanceMethod yX7_isDirty, Cond.selects RX7 yX7_isDirty yX7_isDirty, Cond.code yX7_isDirty cX7_isDirty 5 (some .boolean), Cond.fieldLink RX7 35 "ObjectMapperModel" "names" "[I", Cond.fieldLink RX7 41 "ObjectMapperModel" "oldNames" "[I", Cond.fieldLink RX7 38 "ObjectMapperModel" "references" "[I", Cond.fieldLink RX7 44 "ObjectMapperModel" "oldReferences" "[I", Cond.methodLink RX7 90 yX7_knows, Cond.instanceMethod yX7_knows, Cond.selects RX7 yX7_knows yX7_knows, Cond.code yX7_knows cX7_knows 4 (some .boolean), Cond.methodLink RX7 124 yX7_isMade, Cond.instanceMethod yX7_isMade, Cond.selects RX7 yX7_isMade yX7_isMade, Cond.code yX7_isMade cX7_isMade 4 (some .boolean)]
def wsX7_areThere : List Cond := .code yX7_areThere cX7_areThere 7 (some .boolean) :: ((wsX7_areThere_r1 ++ wsX7_areThere_r2) ++ wsX70)
def wsX7_areWhole_r1 : List Cond := [Cond.fieldLink RX7 7 "ObjectMapperModel" "keys" "[I", Cond.fieldLink RX7 38 "ObjectMapperModel" "references" "[I", Cond.fieldLink RX7 20 "ObjectMapperModel" "rowReferences" "[I", Cond.fieldLink RX7 26 "ObjectMapperModel" "willBe" "[Z", Cond.methodLink RX7 124 yX7_isMade, Cond.instanceMethod yX7_isMade, Cond.selects RX7 yX7_isMade yX7_isMade, Cond.initialized RX7, Cond.code yX7_isMade cX7_isMade 4 (some .boolean), Cond.fieldLink RX7 29 "ObjectMapperModel" "states" "[I", Cond.methodLink RX7 65 yX7_at, Cond.static yX7_at, Cond.code yX7_at cX7_at 3 (some .int), Cond.methodLink RX7 118 yX7_isDirty, Cond.instanceMethod yX7_isDirty, Cond.selects RX7 yX7_isDirty yX7_isDirty, Cond.code yX7_isDirty cX7_isDirty 5 (some .boolean), Cond.fieldLink RX7 35 "ObjectMapperModel" "names" "[I", Cond.fieldLink RX7 41 "ObjectMapperModel" "oldNames" "[I", Cond.fieldLink RX7 44 "ObjectMapperModel" "oldReferences" "[I", Cond.methodLink RX7 90 yX7_knows, Cond.instanceMethod yX7_knows, Cond.selects RX7 yX7_knows yX7_knows, Cond.code yX7_knows cX7_knows 4 (some .boolean)]
def wsX7_areWhole_r2 : List Cond := [Cond.fieldLink RX7 32 "ObjectMapperModel" "isRemoved" "[Z", Cond.methodLink RX7 57 yX7_isKey, Cond.instanceMethod yX7_isKey, Cond.selects RX7 yX7_isKey yX7_isKey, Cond.code yX7_isKey cX7_isKey 3 (some .boolean), Cond.methodLink RX7 61 yX7_row, Cond.static yX7_row, Cond.code yX7_row cX7_row 2 (some .int)]
def wsX7_areWhole : List Cond := .code yX7_areWhole cX7_areWhole 7 (some .boolean) :: ((wsX7_areWhole_r1 ++ wsX7_areWhole_r2) ++ wsX70)
def wsX7_notes : List Cond := .code yX7_notes cX7_notes 4 none :: ([.fieldLink RX7 50 "ObjectMapperModel" "written" "[I", .fieldLink RX7 127 "ObjectMapperModel" "writes" "I"] ++ wsX70)
def wsX7_inserts_r1 : List Cond := [Cond.fieldLink RX7 38 "ObjectMapperModel" "references" "[I", Cond.fieldLink RX7 13 "ObjectMapperModel" "isRow" "[Z", Cond.fieldLink RX7 17 "ObjectMapperModel" "rowNames" "[I", Cond.fieldLink RX7 35 "ObjectMapperModel" "names" "[I", Cond.fieldLink RX7 20 "ObjectMapperModel" "rowReferences" "[I", Cond.fieldLink RX7 23 "ObjectMapperModel" "rowVersions" "[I", Cond.methodLink RX7 65 yX7_at, Cond.static yX7_at, Cond.initialized RX7, Cond.code yX7_at cX7_at 3 (some .int), Cond.methodLink RX7 61 yX7_row, Cond.static yX7_row, Cond.code yX7_row cX7_row 2 (some .int), Cond.methodLink RX7 72 yX7_takes, Cond.instanceMethod yX7_takes, Cond.selects RX7 yX7_takes yX7_takes, Cond.code yX7_takes cX7_takes 6 none, Cond.fieldLink RX7 29 "ObjectMapperModel" "states" "[I", Cond.fieldLink RX7 32 "ObjectMapperModel" "isRemoved" "[Z", Cond.fieldLink RX7 41 "ObjectMapperModel" "oldNames" "[I", Cond.fieldLink RX7 44 "ObjectMapperModel" "oldReferences" "[I", Cond.fieldLink RX7 47 "ObjectMapperModel" "oldVersions" "[I", Cond.methodLink RX7 130 yX7_notes, Cond.instanceMethod yX7_notes]
def wsX7_inserts_r2 : List Cond := [Cond.selects RX7 yX7_notes yX7_notes, Cond.code yX7_notes cX7_notes 4 none, Cond.fieldLink RX7 50 "ObjectMapperModel" "written" "[I", Cond.fieldLink RX7 127 "ObjectMapperModel" "writes" "I"]
def wsX7_inserts : List Cond := .code yX7_inserts cX7_inserts 8 none :: ((wsX7_inserts_r1 ++ wsX7_inserts_r2) ++ wsX70)
def wsX7_updates_r1 : List Cond := [Cond.fieldLink RX7 17 "ObjectMapperModel" "rowNames" "[I", Cond.fieldLink RX7 35 "ObjectMapperModel" "names" "[I", Cond.fieldLink RX7 20 "ObjectMapperModel" "rowReferences" "[I", Cond.fieldLink RX7 38 "ObjectMapperModel" "references" "[I", Cond.fieldLink RX7 23 "ObjectMapperModel" "rowVersions" "[I", Cond.methodLink RX7 65 yX7_at, Cond.static yX7_at, Cond.initialized RX7, Cond.code yX7_at cX7_at 3 (some .int), Cond.methodLink RX7 61 yX7_row, Cond.static yX7_row, Cond.code yX7_row cX7_row 2 (some .int), Cond.methodLink RX7 72 yX7_takes, Cond.instanceMethod yX7_takes, Cond.selects RX7 yX7_takes yX7_takes, Cond.code yX7_takes cX7_takes 6 none, Cond.fieldLink RX7 29 "ObjectMapperModel" "states" "[I", Cond.fieldLink RX7 32 "ObjectMapperModel" "isRemoved" "[Z", Cond.fieldLink RX7 41 "ObjectMapperModel" "oldNames" "[I", Cond.fieldLink RX7 44 "ObjectMapperModel" "oldReferences" "[I", Cond.fieldLink RX7 47 "ObjectMapperModel" "oldVersions" "[I", Cond.methodLink RX7 130 yX7_notes, Cond.instanceMethod yX7_notes, Cond.selects RX7 yX7_notes yX7_notes]
def wsX7_updates_r2 : List Cond := [Cond.code yX7_notes cX7_notes 4 none, Cond.fieldLink RX7 50 "ObjectMapperModel" "written" "[I", Cond.fieldLink RX7 127 "ObjectMapperModel" "writes" "I"]
def wsX7_updates : List Cond := .code yX7_updates cX7_updates 6 none :: ((wsX7_updates_r1 ++ wsX7_updates_r2) ++ wsX70)
def wsX7_flush_r1 : List Cond := [Cond.fieldLink RX7 127 "ObjectMapperModel" "writes" "I", Cond.fieldLink RX7 7 "ObjectMapperModel" "keys" "[I", Cond.fieldLink RX7 13 "ObjectMapperModel" "isRow" "[Z", Cond.fieldLink RX7 29 "ObjectMapperModel" "states" "[I", Cond.fieldLink RX7 32 "ObjectMapperModel" "isRemoved" "[Z", Cond.methodLink RX7 76 yX7_isSession, Cond.static yX7_isSession, Cond.initialized RX7, Cond.code yX7_isSession cX7_isSession 1 (some .boolean), Cond.methodLink RX7 133 yX7_areThere, Cond.instanceMethod yX7_areThere, Cond.selects RX7 yX7_areThere yX7_areThere, Cond.code yX7_areThere cX7_areThere 7 (some .boolean), Cond.fieldLink RX7 23 "ObjectMapperModel" "rowVersions" "[I", Cond.fieldLink RX7 47 "ObjectMapperModel" "oldVersions" "[I", Cond.fieldLink RX7 26 "ObjectMapperModel" "willBe" "[Z", Cond.methodLink RX7 121 yX7_isGone, Cond.instanceMethod yX7_isGone, Cond.selects RX7 yX7_isGone yX7_isGone, Cond.code yX7_isGone cX7_isGone 4 (some .boolean), Cond.methodLink RX7 65 yX7_at, Cond.static yX7_at, Cond.code yX7_at cX7_at 3 (some .int), Cond.methodLink RX7 69 yX7_hasRow]
def wsX7_flush_r2 : List Cond := [Cond.instanceMethod yX7_hasRow, Cond.selects RX7 yX7_hasRow yX7_hasRow, Cond.code yX7_hasRow cX7_hasRow 3 (some .boolean), Cond.methodLink RX7 57 yX7_isKey, Cond.instanceMethod yX7_isKey, Cond.selects RX7 yX7_isKey yX7_isKey, Cond.code yX7_isKey cX7_isKey 3 (some .boolean), Cond.methodLink RX7 61 yX7_row, Cond.static yX7_row, Cond.code yX7_row cX7_row 2 (some .int), Cond.methodLink RX7 118 yX7_isDirty, Cond.instanceMethod yX7_isDirty, Cond.selects RX7 yX7_isDirty yX7_isDirty, Cond.code yX7_isDirty cX7_isDirty 5 (some .boolean), Cond.fieldLink RX7 35 "ObjectMapperModel" "names" "[I", Cond.fieldLink RX7 41 "ObjectMapperModel" "oldNames" "[I", Cond.fieldLink RX7 38 "ObjectMapperModel" "references" "[I", Cond.fieldLink RX7 44 "ObjectMapperModel" "oldReferences" "[I", Cond.methodLink RX7 90 yX7_knows, Cond.instanceMethod yX7_knows, Cond.selects RX7 yX7_knows yX7_knows, Cond.code yX7_knows cX7_knows 4 (some .boolean), Cond.methodLink RX7 124 yX7_isMade, Cond.instanceMethod yX7_isMade]
def wsX7_flush_r3 : List Cond := [Cond.selects RX7 yX7_isMade yX7_isMade, Cond.code yX7_isMade cX7_isMade 4 (some .boolean), Cond.methodLink RX7 136 yX7_areWhole, Cond.instanceMethod yX7_areWhole, Cond.selects RX7 yX7_areWhole yX7_areWhole, Cond.code yX7_areWhole cX7_areWhole 7 (some .boolean), Cond.fieldLink RX7 20 "ObjectMapperModel" "rowReferences" "[I", Cond.methodLink RX7 83 yX7_holds, Cond.instanceMethod yX7_holds, Cond.selects RX7 yX7_holds yX7_holds, Cond.code yX7_holds cX7_holds 2 (some .boolean), Cond.fieldLink RX7 53 "ObjectMapperModel" "thrown" "I", Cond.methodLink RX7 139 yX7_inserts, Cond.instanceMethod yX7_inserts, Cond.selects RX7 yX7_inserts yX7_inserts, Cond.code yX7_inserts cX7_inserts 8 none, Cond.fieldLink RX7 17 "ObjectMapperModel" "rowNames" "[I", Cond.methodLink RX7 72 yX7_takes, Cond.instanceMethod yX7_takes, Cond.selects RX7 yX7_takes yX7_takes, Cond.code yX7_takes cX7_takes 6 none, Cond.methodLink RX7 130 yX7_notes, Cond.instanceMethod yX7_notes, Cond.selects RX7 yX7_notes yX7_notes]
def wsX7_flush_r4 : List Cond := [Cond.code yX7_notes cX7_notes 4 none, Cond.fieldLink RX7 50 "ObjectMapperModel" "written" "[I", Cond.methodLink RX7 142 yX7_updates, Cond.instanceMethod yX7_updates, Cond.selects RX7 yX7_updates yX7_updates, Cond.code yX7_updates cX7_updates 6 none]
def wsX7_flush : List Cond := .code yX7_flush cX7_flush 7 (some .int) :: ((wsX7_flush_r1 ++ (wsX7_flush_r2 ++ (wsX7_flush_r3 ++ wsX7_flush_r4))) ++ wsX70)
def wsX7_clear_r1 : List Cond := [Cond.fieldLink RX7 7 "ObjectMapperModel" "keys" "[I", Cond.fieldLink RX7 29 "ObjectMapperModel" "states" "[I", Cond.fieldLink RX7 32 "ObjectMapperModel" "isRemoved" "[Z", Cond.methodLink RX7 76 yX7_isSession, Cond.static yX7_isSession, Cond.initialized RX7, Cond.code yX7_isSession cX7_isSession 1 (some .boolean), Cond.methodLink RX7 83 yX7_holds, Cond.instanceMethod yX7_holds, Cond.selects RX7 yX7_holds yX7_holds, Cond.code yX7_holds cX7_holds 2 (some .boolean), Cond.fieldLink RX7 53 "ObjectMapperModel" "thrown" "I", Cond.methodLink RX7 114 yX7_knownOf, Cond.instanceMethod yX7_knownOf, Cond.selects RX7 yX7_knownOf yX7_knownOf, Cond.code yX7_knownOf cX7_knownOf 5 (some .int), Cond.methodLink RX7 90 yX7_knows, Cond.instanceMethod yX7_knows, Cond.selects RX7 yX7_knows yX7_knows, Cond.code yX7_knows cX7_knows 4 (some .boolean), Cond.methodLink RX7 57 yX7_isKey, Cond.instanceMethod yX7_isKey, Cond.selects RX7 yX7_isKey yX7_isKey, Cond.code yX7_isKey cX7_isKey 3 (some .boolean)]
def wsX7_clear_r2 : List Cond := [Cond.methodLink RX7 65 yX7_at, Cond.static yX7_at, Cond.code yX7_at cX7_at 3 (some .int)]
def wsX7_clear : List Cond := .code yX7_clear cX7_clear 5 (some .int) :: ((wsX7_clear_r1 ++ wsX7_clear_r2) ++ wsX70)
def wsX7_rows : List Cond := .code yX7_rows cX7_rows 4 (some .int) :: ([.fieldLink RX7 7 "ObjectMapperModel" "keys" "[I", .methodLink RX7 94 yX7_isKind, .static yX7_isKind, .initialized RX7, .code yX7_isKind cX7_isKind 1 (some .boolean), .methodLink RX7 83 yX7_holds, .instanceMethod yX7_holds, .selects RX7 yX7_holds yX7_holds, .code yX7_holds cX7_holds 2 (some .boolean), .fieldLink RX7 53 "ObjectMapperModel" "thrown" "I", .methodLink RX7 69 yX7_hasRow, .instanceMethod yX7_hasRow, .selects RX7 yX7_hasRow yX7_hasRow, .code yX7_hasRow cX7_hasRow 3 (some .boolean), .fieldLink RX7 13 "ObjectMapperModel" "isRow" "[Z", .methodLink RX7 57 yX7_isKey, .instanceMethod yX7_isKey, .selects RX7 yX7_isKey yX7_isKey, .code yX7_isKey cX7_isKey 3 (some .boolean), .methodLink RX7 61 yX7_row, .static yX7_row, .code yX7_row cX7_row 2 (some .int)] ++ wsX70)
def wsX7_isRowAsked : List Cond := .code yX7_isRowAsked cX7_isRowAsked 3 (some .boolean) :: ([.methodLink RX7 94 yX7_isKind, .static yX7_isKind, .initialized RX7, .code yX7_isKind cX7_isKind 1 (some .boolean), .methodLink RX7 69 yX7_hasRow, .instanceMethod yX7_hasRow, .selects RX7 yX7_hasRow yX7_hasRow, .code yX7_hasRow cX7_hasRow 3 (some .boolean), .fieldLink RX7 13 "ObjectMapperModel" "isRow" "[Z", .methodLink RX7 57 yX7_isKey, .instanceMethod yX7_isKey, .selects RX7 yX7_isKey yX7_isKey, .code yX7_isKey cX7_isKey 3 (some .boolean), .fieldLink RX7 7 "ObjectMapperModel" "keys" "[I", .methodLink RX7 61 yX7_row, .static yX7_row, .code yX7_row cX7_row 2 (some .int), .methodLink RX7 83 yX7_holds, .instanceMethod yX7_holds, .selects RX7 yX7_holds yX7_holds, .code yX7_holds cX7_holds 2 (some .boolean), .fieldLink RX7 53 "ObjectMapperModel" "thrown" "I"] ++ wsX70)
def wsX7_rowName_r1 : List Cond := [Cond.fieldLink RX7 17 "ObjectMapperModel" "rowNames" "[I", Cond.methodLink RX7 145 yX7_isRowAsked, Cond.instanceMethod yX7_isRowAsked, Cond.selects RX7 yX7_isRowAsked yX7_isRowAsked, Cond.initialized RX7, Cond.code yX7_isRowAsked cX7_isRowAsked 3 (some .boolean), Cond.methodLink RX7 94 yX7_isKind, Cond.static yX7_isKind, Cond.code yX7_isKind cX7_isKind 1 (some .boolean), Cond.methodLink RX7 69 yX7_hasRow, Cond.instanceMethod yX7_hasRow, Cond.selects RX7 yX7_hasRow yX7_hasRow, Cond.code yX7_hasRow cX7_hasRow 3 (some .boolean), Cond.fieldLink RX7 13 "ObjectMapperModel" "isRow" "[Z", Cond.methodLink RX7 57 yX7_isKey, Cond.instanceMethod yX7_isKey, Cond.selects RX7 yX7_isKey yX7_isKey, Cond.code yX7_isKey cX7_isKey 3 (some .boolean), Cond.fieldLink RX7 7 "ObjectMapperModel" "keys" "[I", Cond.methodLink RX7 61 yX7_row, Cond.static yX7_row, Cond.code yX7_row cX7_row 2 (some .int), Cond.methodLink RX7 83 yX7_holds, Cond.instanceMethod yX7_holds]
def wsX7_rowName_r2 : List Cond := [Cond.selects RX7 yX7_holds yX7_holds, Cond.code yX7_holds cX7_holds 2 (some .boolean), Cond.fieldLink RX7 53 "ObjectMapperModel" "thrown" "I"]
def wsX7_rowName : List Cond := .code yX7_rowName cX7_rowName 3 (some .int) :: ((wsX7_rowName_r1 ++ wsX7_rowName_r2) ++ wsX70)
def wsX7_rowReference_r1 : List Cond := [Cond.fieldLink RX7 20 "ObjectMapperModel" "rowReferences" "[I", Cond.methodLink RX7 145 yX7_isRowAsked, Cond.instanceMethod yX7_isRowAsked, Cond.selects RX7 yX7_isRowAsked yX7_isRowAsked, Cond.initialized RX7, Cond.code yX7_isRowAsked cX7_isRowAsked 3 (some .boolean), Cond.methodLink RX7 94 yX7_isKind, Cond.static yX7_isKind, Cond.code yX7_isKind cX7_isKind 1 (some .boolean), Cond.methodLink RX7 69 yX7_hasRow, Cond.instanceMethod yX7_hasRow, Cond.selects RX7 yX7_hasRow yX7_hasRow, Cond.code yX7_hasRow cX7_hasRow 3 (some .boolean), Cond.fieldLink RX7 13 "ObjectMapperModel" "isRow" "[Z", Cond.methodLink RX7 57 yX7_isKey, Cond.instanceMethod yX7_isKey, Cond.selects RX7 yX7_isKey yX7_isKey, Cond.code yX7_isKey cX7_isKey 3 (some .boolean), Cond.fieldLink RX7 7 "ObjectMapperModel" "keys" "[I", Cond.methodLink RX7 61 yX7_row, Cond.static yX7_row, Cond.code yX7_row cX7_row 2 (some .int), Cond.methodLink RX7 83 yX7_holds, Cond.instanceMethod yX7_holds]
def wsX7_rowReference_r2 : List Cond := [Cond.selects RX7 yX7_holds yX7_holds, Cond.code yX7_holds cX7_holds 2 (some .boolean), Cond.fieldLink RX7 53 "ObjectMapperModel" "thrown" "I"]
def wsX7_rowReference : List Cond := .code yX7_rowReference cX7_rowReference 3 (some .int) :: ((wsX7_rowReference_r1 ++ wsX7_rowReference_r2) ++ wsX70)
def wsX7_rowVersion_r1 : List Cond := [Cond.fieldLink RX7 23 "ObjectMapperModel" "rowVersions" "[I", Cond.methodLink RX7 145 yX7_isRowAsked, Cond.instanceMethod yX7_isRowAsked, Cond.selects RX7 yX7_isRowAsked yX7_isRowAsked, Cond.initialized RX7, Cond.code yX7_isRowAsked cX7_isRowAsked 3 (some .boolean), Cond.methodLink RX7 94 yX7_isKind, Cond.static yX7_isKind, Cond.code yX7_isKind cX7_isKind 1 (some .boolean), Cond.methodLink RX7 69 yX7_hasRow, Cond.instanceMethod yX7_hasRow, Cond.selects RX7 yX7_hasRow yX7_hasRow, Cond.code yX7_hasRow cX7_hasRow 3 (some .boolean), Cond.fieldLink RX7 13 "ObjectMapperModel" "isRow" "[Z", Cond.methodLink RX7 57 yX7_isKey, Cond.instanceMethod yX7_isKey, Cond.selects RX7 yX7_isKey yX7_isKey, Cond.code yX7_isKey cX7_isKey 3 (some .boolean), Cond.fieldLink RX7 7 "ObjectMapperModel" "keys" "[I", Cond.methodLink RX7 61 yX7_row, Cond.static yX7_row, Cond.code yX7_row cX7_row 2 (some .int), Cond.methodLink RX7 83 yX7_holds, Cond.instanceMethod yX7_holds]
def wsX7_rowVersion_r2 : List Cond := [Cond.selects RX7 yX7_holds yX7_holds, Cond.code yX7_holds cX7_holds 2 (some .boolean), Cond.fieldLink RX7 53 "ObjectMapperModel" "thrown" "I"]
def wsX7_rowVersion : List Cond := .code yX7_rowVersion cX7_rowVersion 3 (some .int) :: ((wsX7_rowVersion_r1 ++ wsX7_rowVersion_r2) ++ wsX70)
def wsX7_writes : List Cond := .code yX7_writes cX7_writes 1 (some .int) :: ([.fieldLink RX7 53 "ObjectMapperModel" "thrown" "I", .fieldLink RX7 127 "ObjectMapperModel" "writes" "I"] ++ wsX70)
def wsX7_isWrite : List Cond := .code yX7_isWrite cX7_isWrite 2 (some .boolean) :: ([.fieldLink RX7 127 "ObjectMapperModel" "writes" "I", .methodLink RX7 83 yX7_holds, .instanceMethod yX7_holds, .selects RX7 yX7_holds yX7_holds, .initialized RX7, .code yX7_holds cX7_holds 2 (some .boolean), .fieldLink RX7 53 "ObjectMapperModel" "thrown" "I"] ++ wsX70)
def wsX7_write : List Cond := .code yX7_write cX7_write 2 (some .int) :: ([.fieldLink RX7 50 "ObjectMapperModel" "written" "[I", .methodLink RX7 148 yX7_isWrite, .instanceMethod yX7_isWrite, .selects RX7 yX7_isWrite yX7_isWrite, .initialized RX7, .code yX7_isWrite cX7_isWrite 2 (some .boolean), .fieldLink RX7 127 "ObjectMapperModel" "writes" "I", .methodLink RX7 83 yX7_holds, .instanceMethod yX7_holds, .selects RX7 yX7_holds yX7_holds, .code yX7_holds cX7_holds 2 (some .boolean), .fieldLink RX7 53 "ObjectMapperModel" "thrown" "I"] ++ wsX70)
def wsX7_written : List Cond := .code yX7_written cX7_written 2 (some .int) :: ([.fieldLink RX7 50 "ObjectMapperModel" "written" "[I", .methodLink RX7 148 yX7_isWrite, .instanceMethod yX7_isWrite, .selects RX7 yX7_isWrite yX7_isWrite, .initialized RX7, .code yX7_isWrite cX7_isWrite 2 (some .boolean), .fieldLink RX7 127 "ObjectMapperModel" "writes" "I", .methodLink RX7 83 yX7_holds, .instanceMethod yX7_holds, .selects RX7 yX7_holds yX7_holds, .code yX7_holds cX7_holds 2 (some .boolean), .fieldLink RX7 53 "ObjectMapperModel" "thrown" "I"] ++ wsX70)
def wsJ9_max_7cf53 : List Cond := .code yJ9_max_7cf53 cJ9_max_7cf53 2 (some .int) :: ([])
def wsJ9_min_7cf53 : List Cond := .code yJ9_min_7cf53 cJ9_min_7cf53 2 (some .int) :: ([])
def wsL_makeAuthor_r1 : List Cond := [Cond.classLink RL 13 "java/lang/IndexOutOfBoundsException", Cond.classLink RL 15 "java/lang/IllegalArgumentException", Cond.methodLink RL 7 yX6_makeAuthor, Cond.instanceMethod yX6_makeAuthor, Cond.selects RX6 yX6_makeAuthor yX6_makeAuthor, Cond.initialized RX6, Cond.code yX6_makeAuthor cX6_makeAuthor 4 (some .int), Cond.methodLink RX6 33 yX6_sessionAt, Cond.instanceMethod yX6_sessionAt, Cond.selects RX6 yX6_sessionAt yX6_sessionAt, Cond.code yX6_sessionAt cX6_sessionAt 2 (some (.object "ObjectMapper$Session")), Cond.classLink RX6 177 "java/lang/IndexOutOfBoundsException", Cond.initialized "java/lang/IndexOutOfBoundsException", Cond.fieldLink RX6 28 "ObjectMapper" "sessions" "[LObjectMapper$Session;", Cond.methodLink RX6 37 yX6_checkRangeOfName, Cond.static yX6_checkRangeOfName, Cond.code yX6_checkRangeOfName cX6_checkRangeOfName 1 none, Cond.classLink RX6 98 "java/lang/IllegalArgumentException", Cond.initialized "java/lang/IllegalArgumentException", Cond.methodLink RX6 41 yX6_makeEntity, Cond.instanceMethod yX6_makeEntity, Cond.selects RX6 yX6_makeEntity yX6_makeEntity, Cond.code yX6_makeEntity cX6_makeEntity 7 (some .int), Cond.methodLink RX6 52 yX6_tableOf]
def wsL_makeAuthor_r2 : List Cond := [Cond.instanceMethod yX6_tableOf, Cond.selects RX6 yX6_tableOf yX6_tableOf, Cond.code yX6_tableOf cX6_tableOf 2 (some (.object "ObjectMapper$Table")), Cond.fieldLink RX6 10 "ObjectMapper" "authorTable" "LObjectMapper$Table;", Cond.fieldLink RX6 16 "ObjectMapper" "bookTable" "LObjectMapper$Table;", Cond.methodLink RX6 192 yX5_size, Cond.instanceMethod yX5_size, Cond.selects RX5 yX5_size yX5_size, Cond.initialized RX5, Cond.code yX5_size cX5_size 1 (some .int), Cond.fieldLink RX5 10 "ObjectMapper$Table" "places" "Ljava/util/ArrayList;", Cond.methodLink RX5 23 yJx4a65c_size_8abf5, Cond.instanceMethod yJx4a65c_size_8abf5, Cond.selects RJx4a65c yJx4a65c_size_8abf5 yJx4a65c_size_8abf5, Cond.initialized RJx4a65c, Cond.code yJx4a65c_size_8abf5 cJx4a65c_size_8abf5 1 (some .int), Cond.fieldLink RJx4a65c 48 "java/util/ArrayList" "size" "I", Cond.methodLink RX6 194 yX5_addPlace, Cond.instanceMethod yX5_addPlace, Cond.selects RX5 yX5_addPlace yX5_addPlace, Cond.code yX5_addPlace cX5_addPlace 1 none, Cond.classLink RX5 16 RX3, Cond.instantiable RX3 4, Cond.initialized RX3]
def wsL_makeAuthor_r3 : List Cond := [Cond.instanceMethod yX3_init, Cond.code yX3_init cX3_init 1 none, Cond.methodLink RX3 3 objectInit, Cond.instanceMethod objectInit, Cond.code objectInit ⟨#[0xb1]⟩ 1 none, Cond.fieldLink RX3 9 "ObjectMapper$Row" "reference" "I", Cond.methodLink RX5 27 yJx4a65c_add_9ea2d, Cond.instanceMethod yJx4a65c_add_9ea2d, Cond.selects RJx4a65c yJx4a65c_add_9ea2d yJx4a65c_add_9ea2d, Cond.code yJx4a65c_add_9ea2d cJx4a65c_add_9ea2d 2 (some .boolean), Cond.fieldLink RJx4a65c 63 "java/util/ArrayList" "modCount" "I", Cond.sameField "java/util/ArrayList" "java/util/AbstractList" "modCount" "I", Cond.fieldLink RJx4a65c 9 "java/util/ArrayList" "elementData" "[Ljava/lang/Object;", Cond.methodLink RJx4a65c 131 yJx4a65c_add_72be8, Cond.instanceMethod yJx4a65c_add_72be8, Cond.selects RJx4a65c yJx4a65c_add_72be8 yJx4a65c_add_72be8, Cond.code yJx4a65c_add_72be8 cJx4a65c_add_72be8 4 none, Cond.methodLink RJx4a65c 129 yJx4a65c_grow_d5877, Cond.instanceMethod yJx4a65c_grow_d5877, Cond.selects RJx4a65c yJx4a65c_grow_d5877 yJx4a65c_grow_d5877, Cond.code yJx4a65c_grow_d5877 cJx4a65c_grow_d5877 1 (some (.array (.object "java/lang/Object"))), Cond.methodLink RJx4a65c 69 yJx4a65c_grow_92f84, Cond.instanceMethod yJx4a65c_grow_92f84, Cond.selects RJx4a65c yJx4a65c_grow_92f84 yJx4a65c_grow_92f84]
def wsL_makeAuthor_r4 : List Cond := [Cond.code yJx4a65c_grow_92f84 cJx4a65c_grow_92f84 4 (some (.array (.object "java/lang/Object"))), Cond.fieldLink RJx4a65c 39 "java/util/ArrayList" "DEFAULTCAPACITY_EMPTY_ELEMENTDATA" "[Ljava/lang/Object;", Cond.methodLink RJx4a65c 79 Lib.Math.max.name, Cond.static Lib.Math.max.name, Cond.initialized "java/lang/Math", Cond.code Lib.Math.max.name Lib.Math.max.code 2 (some .int), Cond.classLink RJx4a65c 7 "java/lang/Object", Cond.methodLink RJx4a65c 73 yJ8_newLength_cabcc, Cond.static yJ8_newLength_cabcc, Cond.initialized RJ8, Cond.code yJ8_newLength_cabcc cJ8_newLength_cabcc 4 (some .int), Cond.methodLink RJ8 194 Lib.Math.max.name, Cond.constant RJ8 200 (2147483639), Cond.methodLink RJ8 201 yJ8_hugeLength_7cf53, Cond.static yJ8_hugeLength_7cf53, Cond.code yJ8_hugeLength_7cf53 cJ8_hugeLength_7cf53 3 (some .int), Cond.methodLink RJx4a65c 66 yJ7_copyOf_1904c, Cond.static yJ7_copyOf_1904c, Cond.initialized RJ7, Cond.code yJ7_copyOf_1904c cJ7_copyOf_1904c 2 (some (.array (.object "java/lang/Object"))), Cond.methodLink RJ7 86 ⟨"java/lang/Object", "getClass", "()Ljava/lang/Class;"⟩, Cond.selects "[Ljava/lang/Object;" ⟨"java/lang/Object", "getClass", "()Ljava/lang/Class;"⟩ ⟨"java/lang/Object", "getClass", "()Ljava/lang/Class;"⟩, Cond.instanceMethod ⟨"java/lang/Object", "getClass", "()Ljava/lang/Class;"⟩, Cond.native ⟨"java/lang/Object", "getClass", "()Ljava/lang/Class;"⟩]
def wsL_makeAuthor_r5 : List Cond := [Cond.methodLink RJ7 300 yJ7_copyOf_6403c, Cond.static yJ7_copyOf_6403c, Cond.code yJ7_copyOf_6403c cJ7_copyOf_6403c 4 (some (.array (.object "java/lang/Object"))), Cond.classLink RJ7 110 "[Ljava/lang/Object;", Cond.classLink RJ7 2 "java/lang/Object", Cond.methodLink RJ7 304 Lib.Math.min.name, Cond.static Lib.Math.min.name, Cond.code Lib.Math.min.name Lib.Math.min.code 2 (some .int), Cond.methodLink RJ7 150 arraycopyName, Cond.native arraycopyName, Cond.static arraycopyName, Cond.initialized "java/lang/System", Cond.methodLink RX6 197 yX4_addPlace, Cond.instanceMethod yX4_addPlace, Cond.selects RX4 yX4_addPlace yX4_addPlace, Cond.initialized RX4, Cond.code yX4_addPlace cX4_addPlace 2 none, Cond.classLink RX4 21 RX0, Cond.instantiable RX0 8, Cond.initialized RX0, Cond.methodLink RX4 28 yX4_listOf, Cond.instanceMethod yX4_listOf, Cond.selects RX4 yX4_listOf yX4_listOf, Cond.code yX4_listOf cX4_listOf 2 (some (.object "java/util/ArrayList"))]
def wsL_makeAuthor_r6 : List Cond := [Cond.fieldLink RX4 12 "ObjectMapper$Session" "authorPlaces" "Ljava/util/ArrayList;", Cond.fieldLink RX4 18 "ObjectMapper$Session" "bookPlaces" "Ljava/util/ArrayList;", Cond.instanceMethod yX0_init, Cond.code yX0_init cX0_init 1 none, Cond.methodLink RX0 3 objectInit, Cond.fieldLink RX0 9 "ObjectMapper$Entity" "reference" "I", Cond.methodLink RX4 36 yJx4a65c_add_9ea2d, Cond.methodLink RX6 60 yX4_entityAt, Cond.instanceMethod yX4_entityAt, Cond.selects RX4 yX4_entityAt yX4_entityAt, Cond.code yX4_entityAt cX4_entityAt 4 (some (.object "ObjectMapper$Entity")), Cond.fieldLink RX4 24 "ObjectMapper$Session" "nobody" "LObjectMapper$Entity;", Cond.classLink RX4 21 "ObjectMapper$Entity", Cond.methodLink RX4 32 yJx4a65c_size_8abf5, Cond.methodLink RX4 40 yJx4a65c_get_915e3, Cond.instanceMethod yJx4a65c_get_915e3, Cond.selects RJx4a65c yJx4a65c_get_915e3 yJx4a65c_get_915e3, Cond.code yJx4a65c_get_915e3 cJx4a65c_get_915e3 2 (some (.object "java/lang/Object")), Cond.methodLink RJx4a65c 118 yJ15_checkIndex_7cf53, Cond.static yJ15_checkIndex_7cf53, Cond.initialized RJ15, Cond.code yJ15_checkIndex_7cf53 cJ15_checkIndex_7cf53 2 (some .int), Cond.methodLink RJ15 105 yJ3_checkIndex_8e157, Cond.static yJ3_checkIndex_8e157]
def wsL_makeAuthor_r7 : List Cond := [Cond.initialized RJ3, Cond.code yJ3_checkIndex_8e157 cJ3_checkIndex_8e157 3 (some .int), Cond.methodLink RJx4a65c 123 yJx4a65c_elementData_915e3, Cond.instanceMethod yJx4a65c_elementData_915e3, Cond.selects RJx4a65c yJx4a65c_elementData_915e3 yJx4a65c_elementData_915e3, Cond.code yJx4a65c_elementData_915e3 cJx4a65c_elementData_915e3 2 (some (.object "java/lang/Object")), Cond.methodLink RX6 199 yX0_make, Cond.instanceMethod yX0_make, Cond.selects RX0 yX0_make yX0_make, Cond.code yX0_make cX0_make 3 none, Cond.fieldLink RX0 15 "ObjectMapper$Entity" "inSession" "Z", Cond.fieldLink RX0 19 "ObjectMapper$Entity" "name" "I"]
def wsL_makeAuthor : List Cond := .codeWith yL_makeAuthor cL_makeAuthor 5 (some .int) [(0, 10, 13, 13), (0, 10, 17, 15)] :: ((wsL_makeAuthor_r1 ++ (wsL_makeAuthor_r2 ++ (wsL_makeAuthor_r3 ++ (wsL_makeAuthor_r4 ++ (wsL_makeAuthor_r5 ++ (wsL_makeAuthor_r6 ++ wsL_makeAuthor_r7)))))) ++ wsX60 ++ wsX50 ++ wsJx4a65c0 ++ wsX30 ++ wsX00 ++ wsX40 ++ (vx_atS RX6 181 "java/lang/IndexOutOfBoundsException" ["java/lang/RuntimeException", "java/lang/Exception"]).filter goodWord ++ (vx_atS RX6 102 "java/lang/IllegalArgumentException" ["java/lang/RuntimeException", "java/lang/Exception"]).filter goodWord)
def wsL_makeBook_r1 : List Cond := [Cond.classLink RL 13 "java/lang/IndexOutOfBoundsException", Cond.classLink RL 15 "java/lang/IllegalArgumentException", Cond.classLink RL 21 "java/lang/IllegalStateException", Cond.methodLink RL 17 yX6_makeBook, Cond.instanceMethod yX6_makeBook, Cond.selects RX6 yX6_makeBook yX6_makeBook, Cond.initialized RX6, Cond.code yX6_makeBook cX6_makeBook 5 (some .int), Cond.methodLink RX6 33 yX6_sessionAt, Cond.instanceMethod yX6_sessionAt, Cond.selects RX6 yX6_sessionAt yX6_sessionAt, Cond.code yX6_sessionAt cX6_sessionAt 2 (some (.object "ObjectMapper$Session")), Cond.classLink RX6 177 "java/lang/IndexOutOfBoundsException", Cond.initialized "java/lang/IndexOutOfBoundsException", Cond.fieldLink RX6 28 "ObjectMapper" "sessions" "[LObjectMapper$Session;", Cond.methodLink RX6 37 yX6_checkRangeOfName, Cond.static yX6_checkRangeOfName, Cond.code yX6_checkRangeOfName cX6_checkRangeOfName 1 none, Cond.classLink RX6 98 "java/lang/IllegalArgumentException", Cond.initialized "java/lang/IllegalArgumentException", Cond.methodLink RX6 45 yX6_checkLive, Cond.static yX6_checkLive, Cond.code yX6_checkLive cX6_checkLive 3 none, Cond.classLink RX6 128 "java/lang/IllegalStateException"]
def wsL_makeBook_r2 : List Cond := [Cond.initialized "java/lang/IllegalStateException", Cond.methodLink RX6 60 yX4_entityAt, Cond.instanceMethod yX4_entityAt, Cond.selects RX4 yX4_entityAt yX4_entityAt, Cond.initialized RX4, Cond.code yX4_entityAt cX4_entityAt 4 (some (.object "ObjectMapper$Entity")), Cond.fieldLink RX4 24 "ObjectMapper$Session" "nobody" "LObjectMapper$Entity;", Cond.classLink RX4 21 "ObjectMapper$Entity", Cond.methodLink RX4 28 yX4_listOf, Cond.instanceMethod yX4_listOf, Cond.selects RX4 yX4_listOf yX4_listOf, Cond.code yX4_listOf cX4_listOf 2 (some (.object "java/util/ArrayList")), Cond.fieldLink RX4 12 "ObjectMapper$Session" "authorPlaces" "Ljava/util/ArrayList;", Cond.fieldLink RX4 18 "ObjectMapper$Session" "bookPlaces" "Ljava/util/ArrayList;", Cond.methodLink RX4 32 yJx4a65c_size_8abf5, Cond.instanceMethod yJx4a65c_size_8abf5, Cond.selects RJx4a65c yJx4a65c_size_8abf5 yJx4a65c_size_8abf5, Cond.initialized RJx4a65c, Cond.code yJx4a65c_size_8abf5 cJx4a65c_size_8abf5 1 (some .int), Cond.fieldLink RJx4a65c 48 "java/util/ArrayList" "size" "I", Cond.methodLink RX4 40 yJx4a65c_get_915e3, Cond.instanceMethod yJx4a65c_get_915e3, Cond.selects RJx4a65c yJx4a65c_get_915e3 yJx4a65c_get_915e3, Cond.code yJx4a65c_get_915e3 cJx4a65c_get_915e3 2 (some (.object "java/lang/Object"))]
def wsL_makeBook_r3 : List Cond := [Cond.methodLink RJx4a65c 118 yJ15_checkIndex_7cf53, Cond.static yJ15_checkIndex_7cf53, Cond.initialized RJ15, Cond.code yJ15_checkIndex_7cf53 cJ15_checkIndex_7cf53 2 (some .int), Cond.methodLink RJ15 105 yJ3_checkIndex_8e157, Cond.static yJ3_checkIndex_8e157, Cond.initialized RJ3, Cond.code yJ3_checkIndex_8e157 cJ3_checkIndex_8e157 3 (some .int), Cond.methodLink RJx4a65c 123 yJx4a65c_elementData_915e3, Cond.instanceMethod yJx4a65c_elementData_915e3, Cond.selects RJx4a65c yJx4a65c_elementData_915e3 yJx4a65c_elementData_915e3, Cond.code yJx4a65c_elementData_915e3 cJx4a65c_elementData_915e3 2 (some (.object "java/lang/Object")), Cond.fieldLink RJx4a65c 9 "java/util/ArrayList" "elementData" "[Ljava/lang/Object;", Cond.methodLink RX6 79 yX0_isLive, Cond.instanceMethod yX0_isLive, Cond.selects RX0 yX0_isLive yX0_isLive, Cond.initialized RX0, Cond.code yX0_isLive cX0_isLive 1 (some .boolean), Cond.fieldLink RX0 15 "ObjectMapper$Entity" "inSession" "Z", Cond.fieldLink RX0 49 "ObjectMapper$Entity" "struckOut" "Z", Cond.methodLink RX6 41 yX6_makeEntity, Cond.instanceMethod yX6_makeEntity, Cond.selects RX6 yX6_makeEntity yX6_makeEntity, Cond.code yX6_makeEntity cX6_makeEntity 7 (some .int)]
def wsL_makeBook_r4 : List Cond := [Cond.methodLink RX6 52 yX6_tableOf, Cond.instanceMethod yX6_tableOf, Cond.selects RX6 yX6_tableOf yX6_tableOf, Cond.code yX6_tableOf cX6_tableOf 2 (some (.object "ObjectMapper$Table")), Cond.fieldLink RX6 10 "ObjectMapper" "authorTable" "LObjectMapper$Table;", Cond.fieldLink RX6 16 "ObjectMapper" "bookTable" "LObjectMapper$Table;", Cond.methodLink RX6 192 yX5_size, Cond.instanceMethod yX5_size, Cond.selects RX5 yX5_size yX5_size, Cond.initialized RX5, Cond.code yX5_size cX5_size 1 (some .int), Cond.fieldLink RX5 10 "ObjectMapper$Table" "places" "Ljava/util/ArrayList;", Cond.methodLink RX5 23 yJx4a65c_size_8abf5, Cond.methodLink RX6 194 yX5_addPlace, Cond.instanceMethod yX5_addPlace, Cond.selects RX5 yX5_addPlace yX5_addPlace, Cond.code yX5_addPlace cX5_addPlace 1 none, Cond.classLink RX5 16 RX3, Cond.instantiable RX3 4, Cond.initialized RX3, Cond.instanceMethod yX3_init, Cond.code yX3_init cX3_init 1 none, Cond.methodLink RX3 3 objectInit, Cond.instanceMethod objectInit]
def wsL_makeBook_r5 : List Cond := [Cond.code objectInit ⟨#[0xb1]⟩ 1 none, Cond.fieldLink RX3 9 "ObjectMapper$Row" "reference" "I", Cond.methodLink RX5 27 yJx4a65c_add_9ea2d, Cond.instanceMethod yJx4a65c_add_9ea2d, Cond.selects RJx4a65c yJx4a65c_add_9ea2d yJx4a65c_add_9ea2d, Cond.code yJx4a65c_add_9ea2d cJx4a65c_add_9ea2d 2 (some .boolean), Cond.fieldLink RJx4a65c 63 "java/util/ArrayList" "modCount" "I", Cond.sameField "java/util/ArrayList" "java/util/AbstractList" "modCount" "I", Cond.methodLink RJx4a65c 131 yJx4a65c_add_72be8, Cond.instanceMethod yJx4a65c_add_72be8, Cond.selects RJx4a65c yJx4a65c_add_72be8 yJx4a65c_add_72be8, Cond.code yJx4a65c_add_72be8 cJx4a65c_add_72be8 4 none, Cond.methodLink RJx4a65c 129 yJx4a65c_grow_d5877, Cond.instanceMethod yJx4a65c_grow_d5877, Cond.selects RJx4a65c yJx4a65c_grow_d5877 yJx4a65c_grow_d5877, Cond.code yJx4a65c_grow_d5877 cJx4a65c_grow_d5877 1 (some (.array (.object "java/lang/Object"))), Cond.methodLink RJx4a65c 69 yJx4a65c_grow_92f84, Cond.instanceMethod yJx4a65c_grow_92f84, Cond.selects RJx4a65c yJx4a65c_grow_92f84 yJx4a65c_grow_92f84, Cond.code yJx4a65c_grow_92f84 cJx4a65c_grow_92f84 4 (some (.array (.object "java/lang/Object"))), Cond.fieldLink RJx4a65c 39 "java/util/ArrayList" "DEFAULTCAPACITY_EMPTY_ELEMENTDATA" "[Ljava/lang/Object;", Cond.methodLink RJx4a65c 79 Lib.Math.max.name, Cond.static Lib.Math.max.name, Cond.initialized "java/lang/Math"]
def wsL_makeBook_r6 : List Cond := [Cond.code Lib.Math.max.name Lib.Math.max.code 2 (some .int), Cond.classLink RJx4a65c 7 "java/lang/Object", Cond.methodLink RJx4a65c 73 yJ8_newLength_cabcc, Cond.static yJ8_newLength_cabcc, Cond.initialized RJ8, Cond.code yJ8_newLength_cabcc cJ8_newLength_cabcc 4 (some .int), Cond.methodLink RJ8 194 Lib.Math.max.name, Cond.constant RJ8 200 (2147483639), Cond.methodLink RJ8 201 yJ8_hugeLength_7cf53, Cond.static yJ8_hugeLength_7cf53, Cond.code yJ8_hugeLength_7cf53 cJ8_hugeLength_7cf53 3 (some .int), Cond.methodLink RJx4a65c 66 yJ7_copyOf_1904c, Cond.static yJ7_copyOf_1904c, Cond.initialized RJ7, Cond.code yJ7_copyOf_1904c cJ7_copyOf_1904c 2 (some (.array (.object "java/lang/Object"))), Cond.methodLink RJ7 86 ⟨"java/lang/Object", "getClass", "()Ljava/lang/Class;"⟩, Cond.selects "[Ljava/lang/Object;" ⟨"java/lang/Object", "getClass", "()Ljava/lang/Class;"⟩ ⟨"java/lang/Object", "getClass", "()Ljava/lang/Class;"⟩, Cond.instanceMethod ⟨"java/lang/Object", "getClass", "()Ljava/lang/Class;"⟩, Cond.native ⟨"java/lang/Object", "getClass", "()Ljava/lang/Class;"⟩, Cond.methodLink RJ7 300 yJ7_copyOf_6403c, Cond.static yJ7_copyOf_6403c, Cond.code yJ7_copyOf_6403c cJ7_copyOf_6403c 4 (some (.array (.object "java/lang/Object"))), Cond.classLink RJ7 110 "[Ljava/lang/Object;", Cond.classLink RJ7 2 "java/lang/Object"]
def wsL_makeBook_r7 : List Cond := [Cond.methodLink RJ7 304 Lib.Math.min.name, Cond.static Lib.Math.min.name, Cond.code Lib.Math.min.name Lib.Math.min.code 2 (some .int), Cond.methodLink RJ7 150 arraycopyName, Cond.native arraycopyName, Cond.static arraycopyName, Cond.initialized "java/lang/System", Cond.methodLink RX6 197 yX4_addPlace, Cond.instanceMethod yX4_addPlace, Cond.selects RX4 yX4_addPlace yX4_addPlace, Cond.code yX4_addPlace cX4_addPlace 2 none, Cond.classLink RX4 21 RX0, Cond.instantiable RX0 8, Cond.instanceMethod yX0_init, Cond.code yX0_init cX0_init 1 none, Cond.methodLink RX0 3 objectInit, Cond.fieldLink RX0 9 "ObjectMapper$Entity" "reference" "I", Cond.methodLink RX4 36 yJx4a65c_add_9ea2d, Cond.methodLink RX6 199 yX0_make, Cond.instanceMethod yX0_make, Cond.selects RX0 yX0_make yX0_make, Cond.code yX0_make cX0_make 3 none, Cond.fieldLink RX0 19 "ObjectMapper$Entity" "name" "I"]
def wsL_makeBook : List Cond := .codeWith yL_makeBook cL_makeBook 6 (some .int) [(0, 12, 15, 13), (0, 12, 19, 15), (0, 12, 23, 21)] :: ((wsL_makeBook_r1 ++ (wsL_makeBook_r2 ++ (wsL_makeBook_r3 ++ (wsL_makeBook_r4 ++ (wsL_makeBook_r5 ++ (wsL_makeBook_r6 ++ wsL_makeBook_r7)))))) ++ wsX60 ++ wsX40 ++ wsJx4a65c0 ++ wsX00 ++ wsX50 ++ wsX30 ++ (vx_atS RX6 181 "java/lang/IndexOutOfBoundsException" ["java/lang/RuntimeException", "java/lang/Exception"]).filter goodWord ++ (vx_atS RX6 102 "java/lang/IllegalArgumentException" ["java/lang/RuntimeException", "java/lang/Exception"]).filter goodWord ++ (vx_atS RX6 132 "java/lang/IllegalStateException" ["java/lang/RuntimeException", "java/lang/Exception"]).filter goodWord)
def wsL_find_r1 : List Cond := [Cond.classLink RL 13 "java/lang/IndexOutOfBoundsException", Cond.classLink RL 15 "java/lang/IllegalArgumentException", Cond.methodLink RL 23 yX6_find, Cond.instanceMethod yX6_find, Cond.selects RX6 yX6_find yX6_find, Cond.initialized RX6, Cond.code yX6_find cX6_find 7 (some .boolean), Cond.fieldLink RX6 64 "ObjectMapper$Row" "there" "Z", Cond.fieldLink RX6 70 "ObjectMapper$Entity" "inSession" "Z", Cond.methodLink RX6 33 yX6_sessionAt, Cond.instanceMethod yX6_sessionAt, Cond.selects RX6 yX6_sessionAt yX6_sessionAt, Cond.code yX6_sessionAt cX6_sessionAt 2 (some (.object "ObjectMapper$Session")), Cond.classLink RX6 177 "java/lang/IndexOutOfBoundsException", Cond.initialized "java/lang/IndexOutOfBoundsException", Cond.fieldLink RX6 28 "ObjectMapper" "sessions" "[LObjectMapper$Session;", Cond.methodLink RX6 49 yX6_checkKind, Cond.static yX6_checkKind, Cond.code yX6_checkKind cX6_checkKind 1 none, Cond.classLink RX6 98 "java/lang/IllegalArgumentException", Cond.initialized "java/lang/IllegalArgumentException", Cond.methodLink RX6 52 yX6_tableOf, Cond.instanceMethod yX6_tableOf, Cond.selects RX6 yX6_tableOf yX6_tableOf]
def wsL_find_r2 : List Cond := [Cond.code yX6_tableOf cX6_tableOf 2 (some (.object "ObjectMapper$Table")), Cond.fieldLink RX6 10 "ObjectMapper" "authorTable" "LObjectMapper$Table;", Cond.fieldLink RX6 16 "ObjectMapper" "bookTable" "LObjectMapper$Table;", Cond.methodLink RX6 56 yX5_rowAt, Cond.instanceMethod yX5_rowAt, Cond.selects RX5 yX5_rowAt yX5_rowAt, Cond.initialized RX5, Cond.code yX5_rowAt cX5_rowAt 2 (some (.object "ObjectMapper$Row")), Cond.fieldLink RX5 10 "ObjectMapper$Table" "places" "Ljava/util/ArrayList;", Cond.fieldLink RX5 19 "ObjectMapper$Table" "noRow" "LObjectMapper$Row;", Cond.classLink RX5 16 "ObjectMapper$Row", Cond.methodLink RX5 23 yJx4a65c_size_8abf5, Cond.instanceMethod yJx4a65c_size_8abf5, Cond.selects RJx4a65c yJx4a65c_size_8abf5 yJx4a65c_size_8abf5, Cond.initialized RJx4a65c, Cond.code yJx4a65c_size_8abf5 cJx4a65c_size_8abf5 1 (some .int), Cond.fieldLink RJx4a65c 48 "java/util/ArrayList" "size" "I", Cond.methodLink RX5 31 yJx4a65c_get_915e3, Cond.instanceMethod yJx4a65c_get_915e3, Cond.selects RJx4a65c yJx4a65c_get_915e3 yJx4a65c_get_915e3, Cond.code yJx4a65c_get_915e3 cJx4a65c_get_915e3 2 (some (.object "java/lang/Object")), Cond.methodLink RJx4a65c 118 yJ15_checkIndex_7cf53, Cond.static yJ15_checkIndex_7cf53, Cond.initialized RJ15]
def wsL_find_r3 : List Cond := [Cond.code yJ15_checkIndex_7cf53 cJ15_checkIndex_7cf53 2 (some .int), Cond.methodLink RJ15 105 yJ3_checkIndex_8e157, Cond.static yJ3_checkIndex_8e157, Cond.initialized RJ3, Cond.code yJ3_checkIndex_8e157 cJ3_checkIndex_8e157 3 (some .int), Cond.methodLink RJx4a65c 123 yJx4a65c_elementData_915e3, Cond.instanceMethod yJx4a65c_elementData_915e3, Cond.selects RJx4a65c yJx4a65c_elementData_915e3 yJx4a65c_elementData_915e3, Cond.code yJx4a65c_elementData_915e3 cJx4a65c_elementData_915e3 2 (some (.object "java/lang/Object")), Cond.fieldLink RJx4a65c 9 "java/util/ArrayList" "elementData" "[Ljava/lang/Object;", Cond.methodLink RX6 60 yX4_entityAt, Cond.instanceMethod yX4_entityAt, Cond.selects RX4 yX4_entityAt yX4_entityAt, Cond.initialized RX4, Cond.code yX4_entityAt cX4_entityAt 4 (some (.object "ObjectMapper$Entity")), Cond.fieldLink RX4 24 "ObjectMapper$Session" "nobody" "LObjectMapper$Entity;", Cond.classLink RX4 21 "ObjectMapper$Entity", Cond.methodLink RX4 28 yX4_listOf, Cond.instanceMethod yX4_listOf, Cond.selects RX4 yX4_listOf yX4_listOf, Cond.code yX4_listOf cX4_listOf 2 (some (.object "java/util/ArrayList")), Cond.fieldLink RX4 12 "ObjectMapper$Session" "authorPlaces" "Ljava/util/ArrayList;", Cond.fieldLink RX4 18 "ObjectMapper$Session" "bookPlaces" "Ljava/util/ArrayList;", Cond.methodLink RX4 32 yJx4a65c_size_8abf5]
def wsL_find_r4 : List Cond := [Cond.methodLink RX4 40 yJx4a65c_get_915e3, Cond.methodLink RX6 75 yX0_load, Cond.instanceMethod yX0_load, Cond.selects RX0 yX0_load yX0_load, Cond.initialized RX0, Cond.code yX0_load cX0_load 2 none, Cond.fieldLink RX0 22 "ObjectMapper$Row" "name" "I", Cond.fieldLink RX0 25 "ObjectMapper$Row" "reference" "I", Cond.methodLink RX0 26 yX0_make, Cond.instanceMethod yX0_make, Cond.selects RX0 yX0_make yX0_make, Cond.code yX0_make cX0_make 3 none, Cond.fieldLink RX0 15 "ObjectMapper$Entity" "inSession" "Z", Cond.fieldLink RX0 19 "ObjectMapper$Entity" "name" "I", Cond.fieldLink RX0 9 "ObjectMapper$Entity" "reference" "I", Cond.methodLink RX0 30 yX0_takeSnapshot, Cond.instanceMethod yX0_takeSnapshot, Cond.selects RX0 yX0_takeSnapshot yX0_takeSnapshot, Cond.code yX0_takeSnapshot cX0_takeSnapshot 2 none, Cond.fieldLink RX0 34 "ObjectMapper$Entity" "hasSnapshot" "Z", Cond.fieldLink RX0 37 "ObjectMapper$Entity" "snapshotName" "I", Cond.fieldLink RX0 40 "ObjectMapper$Entity" "snapshotReference" "I", Cond.fieldLink RX0 43 "ObjectMapper$Row" "version" "I", Cond.fieldLink RX0 46 "ObjectMapper$Entity" "snapshotVersion" "I"]
def wsL_find_r5 : List Cond := [Cond.methodLink RX6 79 yX0_isLive, Cond.instanceMethod yX0_isLive, Cond.selects RX0 yX0_isLive yX0_isLive, Cond.code yX0_isLive cX0_isLive 1 (some .boolean), Cond.fieldLink RX0 49 "ObjectMapper$Entity" "struckOut" "Z"]
def wsL_find : List Cond := .codeWith yL_find cL_find 6 (some .int) [(0, 19, 22, 13), (0, 19, 26, 15)] :: ((wsL_find_r1 ++ (wsL_find_r2 ++ (wsL_find_r3 ++ (wsL_find_r4 ++ wsL_find_r5)))) ++ wsX30 ++ wsX00 ++ wsX60 ++ wsX50 ++ wsJx4a65c0 ++ wsX40 ++ (vx_atS RX6 181 "java/lang/IndexOutOfBoundsException" ["java/lang/RuntimeException", "java/lang/Exception"]).filter goodWord ++ (vx_atS RX6 102 "java/lang/IllegalArgumentException" ["java/lang/RuntimeException", "java/lang/Exception"]).filter goodWord)
def wsL_books_r1 : List Cond := [Cond.classLink RL 13 "java/lang/IndexOutOfBoundsException", Cond.classLink RL 21 "java/lang/IllegalStateException", Cond.methodLink RL 27 yX6_books, Cond.instanceMethod yX6_books, Cond.selects RX6 yX6_books yX6_books, Cond.initialized RX6, Cond.code yX6_books cX6_books 6 (some .int), Cond.methodLink RX6 33 yX6_sessionAt, Cond.instanceMethod yX6_sessionAt, Cond.selects RX6 yX6_sessionAt yX6_sessionAt, Cond.code yX6_sessionAt cX6_sessionAt 2 (some (.object "ObjectMapper$Session")), Cond.classLink RX6 177 "java/lang/IndexOutOfBoundsException", Cond.initialized "java/lang/IndexOutOfBoundsException", Cond.fieldLink RX6 28 "ObjectMapper" "sessions" "[LObjectMapper$Session;", Cond.methodLink RX6 45 yX6_checkLive, Cond.static yX6_checkLive, Cond.code yX6_checkLive cX6_checkLive 3 none, Cond.classLink RX6 128 "java/lang/IllegalStateException", Cond.initialized "java/lang/IllegalStateException", Cond.methodLink RX6 60 yX4_entityAt, Cond.instanceMethod yX4_entityAt, Cond.selects RX4 yX4_entityAt yX4_entityAt, Cond.initialized RX4, Cond.code yX4_entityAt cX4_entityAt 4 (some (.object "ObjectMapper$Entity"))]
def wsL_books_r2 : List Cond := [Cond.fieldLink RX4 24 "ObjectMapper$Session" "nobody" "LObjectMapper$Entity;", Cond.classLink RX4 21 "ObjectMapper$Entity", Cond.methodLink RX4 28 yX4_listOf, Cond.instanceMethod yX4_listOf, Cond.selects RX4 yX4_listOf yX4_listOf, Cond.code yX4_listOf cX4_listOf 2 (some (.object "java/util/ArrayList")), Cond.fieldLink RX4 12 "ObjectMapper$Session" "authorPlaces" "Ljava/util/ArrayList;", Cond.fieldLink RX4 18 "ObjectMapper$Session" "bookPlaces" "Ljava/util/ArrayList;", Cond.methodLink RX4 32 yJx4a65c_size_8abf5, Cond.instanceMethod yJx4a65c_size_8abf5, Cond.selects RJx4a65c yJx4a65c_size_8abf5 yJx4a65c_size_8abf5, Cond.initialized RJx4a65c, Cond.code yJx4a65c_size_8abf5 cJx4a65c_size_8abf5 1 (some .int), Cond.fieldLink RJx4a65c 48 "java/util/ArrayList" "size" "I", Cond.methodLink RX4 40 yJx4a65c_get_915e3, Cond.instanceMethod yJx4a65c_get_915e3, Cond.selects RJx4a65c yJx4a65c_get_915e3 yJx4a65c_get_915e3, Cond.code yJx4a65c_get_915e3 cJx4a65c_get_915e3 2 (some (.object "java/lang/Object")), Cond.methodLink RJx4a65c 118 yJ15_checkIndex_7cf53, Cond.static yJ15_checkIndex_7cf53, Cond.initialized RJ15, Cond.code yJ15_checkIndex_7cf53 cJ15_checkIndex_7cf53 2 (some .int), Cond.methodLink RJ15 105 yJ3_checkIndex_8e157, Cond.static yJ3_checkIndex_8e157]
def wsL_books_r3 : List Cond := [Cond.initialized RJ3, Cond.code yJ3_checkIndex_8e157 cJ3_checkIndex_8e157 3 (some .int), Cond.methodLink RJx4a65c 123 yJx4a65c_elementData_915e3, Cond.instanceMethod yJx4a65c_elementData_915e3, Cond.selects RJx4a65c yJx4a65c_elementData_915e3 yJx4a65c_elementData_915e3, Cond.code yJx4a65c_elementData_915e3 cJx4a65c_elementData_915e3 2 (some (.object "java/lang/Object")), Cond.fieldLink RJx4a65c 9 "java/util/ArrayList" "elementData" "[Ljava/lang/Object;", Cond.methodLink RX6 79 yX0_isLive, Cond.instanceMethod yX0_isLive, Cond.selects RX0 yX0_isLive yX0_isLive, Cond.initialized RX0, Cond.code yX0_isLive cX0_isLive 1 (some .boolean), Cond.fieldLink RX0 15 "ObjectMapper$Entity" "inSession" "Z", Cond.fieldLink RX0 49 "ObjectMapper$Entity" "struckOut" "Z", Cond.methodLink RX6 83 yX6_loadReferring, Cond.instanceMethod yX6_loadReferring, Cond.selects RX6 yX6_loadReferring yX6_loadReferring, Cond.code yX6_loadReferring cX6_loadReferring 8 none, Cond.fieldLink RX6 64 "ObjectMapper$Row" "there" "Z", Cond.fieldLink RX6 164 "ObjectMapper$Row" "reference" "I", Cond.fieldLink RX6 70 "ObjectMapper$Entity" "inSession" "Z", Cond.methodLink RX6 52 yX6_tableOf, Cond.instanceMethod yX6_tableOf, Cond.selects RX6 yX6_tableOf yX6_tableOf]
def wsL_books_r4 : List Cond := [Cond.code yX6_tableOf cX6_tableOf 2 (some (.object "ObjectMapper$Table")), Cond.fieldLink RX6 10 "ObjectMapper" "authorTable" "LObjectMapper$Table;", Cond.fieldLink RX6 16 "ObjectMapper" "bookTable" "LObjectMapper$Table;", Cond.methodLink RX6 192 yX5_size, Cond.instanceMethod yX5_size, Cond.selects RX5 yX5_size yX5_size, Cond.initialized RX5, Cond.code yX5_size cX5_size 1 (some .int), Cond.fieldLink RX5 10 "ObjectMapper$Table" "places" "Ljava/util/ArrayList;", Cond.methodLink RX5 23 yJx4a65c_size_8abf5, Cond.methodLink RX6 56 yX5_rowAt, Cond.instanceMethod yX5_rowAt, Cond.selects RX5 yX5_rowAt yX5_rowAt, Cond.code yX5_rowAt cX5_rowAt 2 (some (.object "ObjectMapper$Row")), Cond.fieldLink RX5 19 "ObjectMapper$Table" "noRow" "LObjectMapper$Row;", Cond.classLink RX5 16 "ObjectMapper$Row", Cond.methodLink RX5 31 yJx4a65c_get_915e3, Cond.methodLink RX6 75 yX0_load, Cond.instanceMethod yX0_load, Cond.selects RX0 yX0_load yX0_load, Cond.code yX0_load cX0_load 2 none, Cond.fieldLink RX0 22 "ObjectMapper$Row" "name" "I", Cond.fieldLink RX0 25 "ObjectMapper$Row" "reference" "I", Cond.methodLink RX0 26 yX0_make]
def wsL_books_r5 : List Cond := [Cond.instanceMethod yX0_make, Cond.selects RX0 yX0_make yX0_make, Cond.code yX0_make cX0_make 3 none, Cond.fieldLink RX0 19 "ObjectMapper$Entity" "name" "I", Cond.fieldLink RX0 9 "ObjectMapper$Entity" "reference" "I", Cond.methodLink RX0 30 yX0_takeSnapshot, Cond.instanceMethod yX0_takeSnapshot, Cond.selects RX0 yX0_takeSnapshot yX0_takeSnapshot, Cond.code yX0_takeSnapshot cX0_takeSnapshot 2 none, Cond.fieldLink RX0 34 "ObjectMapper$Entity" "hasSnapshot" "Z", Cond.fieldLink RX0 37 "ObjectMapper$Entity" "snapshotName" "I", Cond.fieldLink RX0 40 "ObjectMapper$Entity" "snapshotReference" "I", Cond.fieldLink RX0 43 "ObjectMapper$Row" "version" "I", Cond.fieldLink RX0 46 "ObjectMapper$Entity" "snapshotVersion" "I", Cond.methodLink RX6 86 yX4_sizeOf, Cond.instanceMethod yX4_sizeOf, Cond.selects RX4 yX4_sizeOf yX4_sizeOf, Cond.code yX4_sizeOf cX4_sizeOf 2 (some .int), Cond.methodLink RX6 90 yX0_isLiveAndRefersTo, Cond.instanceMethod yX0_isLiveAndRefersTo, Cond.selects RX0 yX0_isLiveAndRefersTo yX0_isLiveAndRefersTo, Cond.code yX0_isLiveAndRefersTo cX0_isLiveAndRefersTo 2 (some .boolean), Cond.methodLink RX0 55 yX0_isLive]
def wsL_books : List Cond := .codeWith yL_books cL_books 5 (some .int) [(0, 10, 13, 13), (0, 10, 17, 21)] :: ((wsL_books_r1 ++ (wsL_books_r2 ++ (wsL_books_r3 ++ (wsL_books_r4 ++ wsL_books_r5)))) ++ wsX60 ++ wsX40 ++ wsJx4a65c0 ++ wsX00 ++ wsX30 ++ wsX50 ++ (vx_atS RX6 181 "java/lang/IndexOutOfBoundsException" ["java/lang/RuntimeException", "java/lang/Exception"]).filter goodWord ++ (vx_atS RX6 132 "java/lang/IllegalStateException" ["java/lang/RuntimeException", "java/lang/Exception"]).filter goodWord)
def wsL_setName_r1 : List Cond := [Cond.classLink RL 13 "java/lang/IndexOutOfBoundsException", Cond.classLink RL 15 "java/lang/IllegalArgumentException", Cond.classLink RL 21 "java/lang/IllegalStateException", Cond.methodLink RL 30 yX6_setName, Cond.instanceMethod yX6_setName, Cond.selects RX6 yX6_setName yX6_setName, Cond.initialized RX6, Cond.code yX6_setName cX6_setName 6 none, Cond.fieldLink RX6 94 "ObjectMapper$Entity" "name" "I", Cond.methodLink RX6 33 yX6_sessionAt, Cond.instanceMethod yX6_sessionAt, Cond.selects RX6 yX6_sessionAt yX6_sessionAt, Cond.code yX6_sessionAt cX6_sessionAt 2 (some (.object "ObjectMapper$Session")), Cond.classLink RX6 177 "java/lang/IndexOutOfBoundsException", Cond.initialized "java/lang/IndexOutOfBoundsException", Cond.fieldLink RX6 28 "ObjectMapper" "sessions" "[LObjectMapper$Session;", Cond.methodLink RX6 49 yX6_checkKind, Cond.static yX6_checkKind, Cond.code yX6_checkKind cX6_checkKind 1 none, Cond.classLink RX6 98 "java/lang/IllegalArgumentException", Cond.initialized "java/lang/IllegalArgumentException", Cond.methodLink RX6 37 yX6_checkRangeOfName, Cond.static yX6_checkRangeOfName, Cond.code yX6_checkRangeOfName cX6_checkRangeOfName 1 none]
def wsL_setName_r2 : List Cond := [Cond.methodLink RX6 45 yX6_checkLive, Cond.static yX6_checkLive, Cond.code yX6_checkLive cX6_checkLive 3 none, Cond.classLink RX6 128 "java/lang/IllegalStateException", Cond.initialized "java/lang/IllegalStateException", Cond.methodLink RX6 60 yX4_entityAt, Cond.instanceMethod yX4_entityAt, Cond.selects RX4 yX4_entityAt yX4_entityAt, Cond.initialized RX4, Cond.code yX4_entityAt cX4_entityAt 4 (some (.object "ObjectMapper$Entity")), Cond.fieldLink RX4 24 "ObjectMapper$Session" "nobody" "LObjectMapper$Entity;", Cond.classLink RX4 21 "ObjectMapper$Entity", Cond.methodLink RX4 28 yX4_listOf, Cond.instanceMethod yX4_listOf, Cond.selects RX4 yX4_listOf yX4_listOf, Cond.code yX4_listOf cX4_listOf 2 (some (.object "java/util/ArrayList")), Cond.fieldLink RX4 12 "ObjectMapper$Session" "authorPlaces" "Ljava/util/ArrayList;", Cond.fieldLink RX4 18 "ObjectMapper$Session" "bookPlaces" "Ljava/util/ArrayList;", Cond.methodLink RX4 32 yJx4a65c_size_8abf5, Cond.instanceMethod yJx4a65c_size_8abf5, Cond.selects RJx4a65c yJx4a65c_size_8abf5 yJx4a65c_size_8abf5, Cond.initialized RJx4a65c, Cond.code yJx4a65c_size_8abf5 cJx4a65c_size_8abf5 1 (some .int), Cond.fieldLink RJx4a65c 48 "java/util/ArrayList" "size" "I"]
def wsL_setName_r3 : List Cond := [Cond.methodLink RX4 40 yJx4a65c_get_915e3, Cond.instanceMethod yJx4a65c_get_915e3, Cond.selects RJx4a65c yJx4a65c_get_915e3 yJx4a65c_get_915e3, Cond.code yJx4a65c_get_915e3 cJx4a65c_get_915e3 2 (some (.object "java/lang/Object")), Cond.methodLink RJx4a65c 118 yJ15_checkIndex_7cf53, Cond.static yJ15_checkIndex_7cf53, Cond.initialized RJ15, Cond.code yJ15_checkIndex_7cf53 cJ15_checkIndex_7cf53 2 (some .int), Cond.methodLink RJ15 105 yJ3_checkIndex_8e157, Cond.static yJ3_checkIndex_8e157, Cond.initialized RJ3, Cond.code yJ3_checkIndex_8e157 cJ3_checkIndex_8e157 3 (some .int), Cond.methodLink RJx4a65c 123 yJx4a65c_elementData_915e3, Cond.instanceMethod yJx4a65c_elementData_915e3, Cond.selects RJx4a65c yJx4a65c_elementData_915e3 yJx4a65c_elementData_915e3, Cond.code yJx4a65c_elementData_915e3 cJx4a65c_elementData_915e3 2 (some (.object "java/lang/Object")), Cond.fieldLink RJx4a65c 9 "java/util/ArrayList" "elementData" "[Ljava/lang/Object;", Cond.methodLink RX6 79 yX0_isLive, Cond.instanceMethod yX0_isLive, Cond.selects RX0 yX0_isLive yX0_isLive, Cond.initialized RX0, Cond.code yX0_isLive cX0_isLive 1 (some .boolean), Cond.fieldLink RX0 15 "ObjectMapper$Entity" "inSession" "Z", Cond.fieldLink RX0 49 "ObjectMapper$Entity" "struckOut" "Z"]
def wsL_setName : List Cond := .codeWith yL_setName cL_setName 6 (some .int) [(0, 9, 12, 13), (0, 9, 16, 15), (0, 9, 20, 21)] :: ((wsL_setName_r1 ++ (wsL_setName_r2 ++ wsL_setName_r3)) ++ wsX00 ++ wsX60 ++ wsX40 ++ wsJx4a65c0 ++ (vx_atS RX6 181 "java/lang/IndexOutOfBoundsException" ["java/lang/RuntimeException", "java/lang/Exception"]).filter goodWord ++ (vx_atS RX6 102 "java/lang/IllegalArgumentException" ["java/lang/RuntimeException", "java/lang/Exception"]).filter goodWord ++ (vx_atS RX6 132 "java/lang/IllegalStateException" ["java/lang/RuntimeException", "java/lang/Exception"]).filter goodWord)
def wsL_setReference_r1 : List Cond := [Cond.classLink RL 13 "java/lang/IndexOutOfBoundsException", Cond.classLink RL 15 "java/lang/IllegalArgumentException", Cond.classLink RL 21 "java/lang/IllegalStateException", Cond.methodLink RL 34 yX6_setReference, Cond.instanceMethod yX6_setReference, Cond.selects RX6 yX6_setReference yX6_setReference, Cond.initialized RX6, Cond.code yX6_setReference cX6_setReference 6 none, Cond.classLink RX6 98 "java/lang/IllegalArgumentException", Cond.initialized "java/lang/IllegalArgumentException", Cond.fieldLink RX6 108 "ObjectMapper$Entity" "reference" "I", Cond.methodLink RX6 33 yX6_sessionAt, Cond.instanceMethod yX6_sessionAt, Cond.selects RX6 yX6_sessionAt yX6_sessionAt, Cond.code yX6_sessionAt cX6_sessionAt 2 (some (.object "ObjectMapper$Session")), Cond.classLink RX6 177 "java/lang/IndexOutOfBoundsException", Cond.initialized "java/lang/IndexOutOfBoundsException", Cond.fieldLink RX6 28 "ObjectMapper" "sessions" "[LObjectMapper$Session;", Cond.methodLink RX6 49 yX6_checkKind, Cond.static yX6_checkKind, Cond.code yX6_checkKind cX6_checkKind 1 none, Cond.methodLink RX6 45 yX6_checkLive, Cond.static yX6_checkLive, Cond.code yX6_checkLive cX6_checkLive 3 none]
def wsL_setReference_r2 : List Cond := [Cond.classLink RX6 128 "java/lang/IllegalStateException", Cond.initialized "java/lang/IllegalStateException", Cond.methodLink RX6 60 yX4_entityAt, Cond.instanceMethod yX4_entityAt, Cond.selects RX4 yX4_entityAt yX4_entityAt, Cond.initialized RX4, Cond.code yX4_entityAt cX4_entityAt 4 (some (.object "ObjectMapper$Entity")), Cond.fieldLink RX4 24 "ObjectMapper$Session" "nobody" "LObjectMapper$Entity;", Cond.classLink RX4 21 "ObjectMapper$Entity", Cond.methodLink RX4 28 yX4_listOf, Cond.instanceMethod yX4_listOf, Cond.selects RX4 yX4_listOf yX4_listOf, Cond.code yX4_listOf cX4_listOf 2 (some (.object "java/util/ArrayList")), Cond.fieldLink RX4 12 "ObjectMapper$Session" "authorPlaces" "Ljava/util/ArrayList;", Cond.fieldLink RX4 18 "ObjectMapper$Session" "bookPlaces" "Ljava/util/ArrayList;", Cond.methodLink RX4 32 yJx4a65c_size_8abf5, Cond.instanceMethod yJx4a65c_size_8abf5, Cond.selects RJx4a65c yJx4a65c_size_8abf5 yJx4a65c_size_8abf5, Cond.initialized RJx4a65c, Cond.code yJx4a65c_size_8abf5 cJx4a65c_size_8abf5 1 (some .int), Cond.fieldLink RJx4a65c 48 "java/util/ArrayList" "size" "I", Cond.methodLink RX4 40 yJx4a65c_get_915e3, Cond.instanceMethod yJx4a65c_get_915e3, Cond.selects RJx4a65c yJx4a65c_get_915e3 yJx4a65c_get_915e3]
def wsL_setReference_r3 : List Cond := [Cond.code yJx4a65c_get_915e3 cJx4a65c_get_915e3 2 (some (.object "java/lang/Object")), Cond.methodLink RJx4a65c 118 yJ15_checkIndex_7cf53, Cond.static yJ15_checkIndex_7cf53, Cond.initialized RJ15, Cond.code yJ15_checkIndex_7cf53 cJ15_checkIndex_7cf53 2 (some .int), Cond.methodLink RJ15 105 yJ3_checkIndex_8e157, Cond.static yJ3_checkIndex_8e157, Cond.initialized RJ3, Cond.code yJ3_checkIndex_8e157 cJ3_checkIndex_8e157 3 (some .int), Cond.methodLink RJx4a65c 123 yJx4a65c_elementData_915e3, Cond.instanceMethod yJx4a65c_elementData_915e3, Cond.selects RJx4a65c yJx4a65c_elementData_915e3 yJx4a65c_elementData_915e3, Cond.code yJx4a65c_elementData_915e3 cJx4a65c_elementData_915e3 2 (some (.object "java/lang/Object")), Cond.fieldLink RJx4a65c 9 "java/util/ArrayList" "elementData" "[Ljava/lang/Object;", Cond.methodLink RX6 79 yX0_isLive, Cond.instanceMethod yX0_isLive, Cond.selects RX0 yX0_isLive yX0_isLive, Cond.initialized RX0, Cond.code yX0_isLive cX0_isLive 1 (some .boolean), Cond.fieldLink RX0 15 "ObjectMapper$Entity" "inSession" "Z", Cond.fieldLink RX0 49 "ObjectMapper$Entity" "struckOut" "Z", Cond.methodLink RX6 105 yX6_otherKind, Cond.static yX6_otherKind, Cond.code yX6_otherKind cX6_otherKind 1 (some .int)]
def wsL_setReference : List Cond := .codeWith yL_setReference cL_setReference 6 (some .int) [(0, 9, 12, 13), (0, 9, 16, 15), (0, 9, 20, 21)] :: ((wsL_setReference_r1 ++ (wsL_setReference_r2 ++ wsL_setReference_r3)) ++ wsX00 ++ wsX60 ++ wsX40 ++ wsJx4a65c0 ++ (vx_atS RX6 102 "java/lang/IllegalArgumentException" ["java/lang/RuntimeException", "java/lang/Exception"]).filter goodWord ++ (vx_atS RX6 181 "java/lang/IndexOutOfBoundsException" ["java/lang/RuntimeException", "java/lang/Exception"]).filter goodWord ++ (vx_atS RX6 132 "java/lang/IllegalStateException" ["java/lang/RuntimeException", "java/lang/Exception"]).filter goodWord)
def wsL_remove_r1 : List Cond := [Cond.classLink RL 13 "java/lang/IndexOutOfBoundsException", Cond.classLink RL 15 "java/lang/IllegalArgumentException", Cond.classLink RL 21 "java/lang/IllegalStateException", Cond.methodLink RL 37 yX6_remove, Cond.instanceMethod yX6_remove, Cond.selects RX6 yX6_remove yX6_remove, Cond.initialized RX6, Cond.code yX6_remove cX6_remove 5 (some .int), Cond.methodLink RX6 33 yX6_sessionAt, Cond.instanceMethod yX6_sessionAt, Cond.selects RX6 yX6_sessionAt yX6_sessionAt, Cond.code yX6_sessionAt cX6_sessionAt 2 (some (.object "ObjectMapper$Session")), Cond.classLink RX6 177 "java/lang/IndexOutOfBoundsException", Cond.initialized "java/lang/IndexOutOfBoundsException", Cond.fieldLink RX6 28 "ObjectMapper" "sessions" "[LObjectMapper$Session;", Cond.methodLink RX6 49 yX6_checkKind, Cond.static yX6_checkKind, Cond.code yX6_checkKind cX6_checkKind 1 none, Cond.classLink RX6 98 "java/lang/IllegalArgumentException", Cond.initialized "java/lang/IllegalArgumentException", Cond.methodLink RX6 45 yX6_checkLive, Cond.static yX6_checkLive, Cond.code yX6_checkLive cX6_checkLive 3 none, Cond.classLink RX6 128 "java/lang/IllegalStateException"]
def wsL_remove_r2 : List Cond := [Cond.initialized "java/lang/IllegalStateException", Cond.methodLink RX6 60 yX4_entityAt, Cond.instanceMethod yX4_entityAt, Cond.selects RX4 yX4_entityAt yX4_entityAt, Cond.initialized RX4, Cond.code yX4_entityAt cX4_entityAt 4 (some (.object "ObjectMapper$Entity")), Cond.fieldLink RX4 24 "ObjectMapper$Session" "nobody" "LObjectMapper$Entity;", Cond.classLink RX4 21 "ObjectMapper$Entity", Cond.methodLink RX4 28 yX4_listOf, Cond.instanceMethod yX4_listOf, Cond.selects RX4 yX4_listOf yX4_listOf, Cond.code yX4_listOf cX4_listOf 2 (some (.object "java/util/ArrayList")), Cond.fieldLink RX4 12 "ObjectMapper$Session" "authorPlaces" "Ljava/util/ArrayList;", Cond.fieldLink RX4 18 "ObjectMapper$Session" "bookPlaces" "Ljava/util/ArrayList;", Cond.methodLink RX4 32 yJx4a65c_size_8abf5, Cond.instanceMethod yJx4a65c_size_8abf5, Cond.selects RJx4a65c yJx4a65c_size_8abf5 yJx4a65c_size_8abf5, Cond.initialized RJx4a65c, Cond.code yJx4a65c_size_8abf5 cJx4a65c_size_8abf5 1 (some .int), Cond.fieldLink RJx4a65c 48 "java/util/ArrayList" "size" "I", Cond.methodLink RX4 40 yJx4a65c_get_915e3, Cond.instanceMethod yJx4a65c_get_915e3, Cond.selects RJx4a65c yJx4a65c_get_915e3 yJx4a65c_get_915e3, Cond.code yJx4a65c_get_915e3 cJx4a65c_get_915e3 2 (some (.object "java/lang/Object"))]
def wsL_remove_r3 : List Cond := [Cond.methodLink RJx4a65c 118 yJ15_checkIndex_7cf53, Cond.static yJ15_checkIndex_7cf53, Cond.initialized RJ15, Cond.code yJ15_checkIndex_7cf53 cJ15_checkIndex_7cf53 2 (some .int), Cond.methodLink RJ15 105 yJ3_checkIndex_8e157, Cond.static yJ3_checkIndex_8e157, Cond.initialized RJ3, Cond.code yJ3_checkIndex_8e157 cJ3_checkIndex_8e157 3 (some .int), Cond.methodLink RJx4a65c 123 yJx4a65c_elementData_915e3, Cond.instanceMethod yJx4a65c_elementData_915e3, Cond.selects RJx4a65c yJx4a65c_elementData_915e3 yJx4a65c_elementData_915e3, Cond.code yJx4a65c_elementData_915e3 cJx4a65c_elementData_915e3 2 (some (.object "java/lang/Object")), Cond.fieldLink RJx4a65c 9 "java/util/ArrayList" "elementData" "[Ljava/lang/Object;", Cond.methodLink RX6 79 yX0_isLive, Cond.instanceMethod yX0_isLive, Cond.selects RX0 yX0_isLive yX0_isLive, Cond.initialized RX0, Cond.code yX0_isLive cX0_isLive 1 (some .boolean), Cond.fieldLink RX0 15 "ObjectMapper$Entity" "inSession" "Z", Cond.fieldLink RX0 49 "ObjectMapper$Entity" "struckOut" "Z", Cond.methodLink RX6 111 yX6_removeAuthor, Cond.instanceMethod yX6_removeAuthor, Cond.selects RX6 yX6_removeAuthor yX6_removeAuthor, Cond.code yX6_removeAuthor cX6_removeAuthor 5 (some .int)]
def wsL_remove_r4 : List Cond := [Cond.methodLink RX6 203 yX0_strikeOut, Cond.instanceMethod yX0_strikeOut, Cond.selects RX0 yX0_strikeOut yX0_strikeOut, Cond.code yX0_strikeOut cX0_strikeOut 1 none, Cond.fieldLink RX0 34 "ObjectMapper$Entity" "hasSnapshot" "Z", Cond.methodLink RX0 52 yX0_forget, Cond.instanceMethod yX0_forget, Cond.selects RX0 yX0_forget yX0_forget, Cond.code yX0_forget cX0_forget 1 none, Cond.methodLink RX6 83 yX6_loadReferring, Cond.instanceMethod yX6_loadReferring, Cond.selects RX6 yX6_loadReferring yX6_loadReferring, Cond.code yX6_loadReferring cX6_loadReferring 8 none, Cond.fieldLink RX6 64 "ObjectMapper$Row" "there" "Z", Cond.fieldLink RX6 164 "ObjectMapper$Row" "reference" "I", Cond.fieldLink RX6 70 "ObjectMapper$Entity" "inSession" "Z", Cond.methodLink RX6 52 yX6_tableOf, Cond.instanceMethod yX6_tableOf, Cond.selects RX6 yX6_tableOf yX6_tableOf, Cond.code yX6_tableOf cX6_tableOf 2 (some (.object "ObjectMapper$Table")), Cond.fieldLink RX6 10 "ObjectMapper" "authorTable" "LObjectMapper$Table;", Cond.fieldLink RX6 16 "ObjectMapper" "bookTable" "LObjectMapper$Table;", Cond.methodLink RX6 192 yX5_size, Cond.instanceMethod yX5_size]
def wsL_remove_r5 : List Cond := [Cond.selects RX5 yX5_size yX5_size, Cond.initialized RX5, Cond.code yX5_size cX5_size 1 (some .int), Cond.fieldLink RX5 10 "ObjectMapper$Table" "places" "Ljava/util/ArrayList;", Cond.methodLink RX5 23 yJx4a65c_size_8abf5, Cond.methodLink RX6 56 yX5_rowAt, Cond.instanceMethod yX5_rowAt, Cond.selects RX5 yX5_rowAt yX5_rowAt, Cond.code yX5_rowAt cX5_rowAt 2 (some (.object "ObjectMapper$Row")), Cond.fieldLink RX5 19 "ObjectMapper$Table" "noRow" "LObjectMapper$Row;", Cond.classLink RX5 16 "ObjectMapper$Row", Cond.methodLink RX5 31 yJx4a65c_get_915e3, Cond.methodLink RX6 75 yX0_load, Cond.instanceMethod yX0_load, Cond.selects RX0 yX0_load yX0_load, Cond.code yX0_load cX0_load 2 none, Cond.fieldLink RX0 22 "ObjectMapper$Row" "name" "I", Cond.fieldLink RX0 25 "ObjectMapper$Row" "reference" "I", Cond.methodLink RX0 26 yX0_make, Cond.instanceMethod yX0_make, Cond.selects RX0 yX0_make yX0_make, Cond.code yX0_make cX0_make 3 none, Cond.fieldLink RX0 19 "ObjectMapper$Entity" "name" "I", Cond.fieldLink RX0 9 "ObjectMapper$Entity" "reference" "I"]
def wsL_remove_r6 : List Cond := [Cond.methodLink RX0 30 yX0_takeSnapshot, Cond.instanceMethod yX0_takeSnapshot, Cond.selects RX0 yX0_takeSnapshot yX0_takeSnapshot, Cond.code yX0_takeSnapshot cX0_takeSnapshot 2 none, Cond.fieldLink RX0 37 "ObjectMapper$Entity" "snapshotName" "I", Cond.fieldLink RX0 40 "ObjectMapper$Entity" "snapshotReference" "I", Cond.fieldLink RX0 43 "ObjectMapper$Row" "version" "I", Cond.fieldLink RX0 46 "ObjectMapper$Entity" "snapshotVersion" "I", Cond.methodLink RX6 86 yX4_sizeOf, Cond.instanceMethod yX4_sizeOf, Cond.selects RX4 yX4_sizeOf yX4_sizeOf, Cond.code yX4_sizeOf cX4_sizeOf 2 (some .int), Cond.methodLink RX6 90 yX0_isLiveAndRefersTo, Cond.instanceMethod yX0_isLiveAndRefersTo, Cond.selects RX0 yX0_isLiveAndRefersTo yX0_isLiveAndRefersTo, Cond.code yX0_isLiveAndRefersTo cX0_isLiveAndRefersTo 2 (some .boolean), Cond.methodLink RX0 55 yX0_isLive, Cond.methodLink RX6 115 yX6_removeBook, Cond.instanceMethod yX6_removeBook, Cond.selects RX6 yX6_removeBook yX6_removeBook, Cond.code yX6_removeBook cX6_removeBook 5 none, Cond.fieldLink RX6 108 "ObjectMapper$Entity" "reference" "I"]
def wsL_remove : List Cond := .codeWith yL_remove cL_remove 6 (some .int) [(0, 12, 15, 13), (0, 12, 19, 15), (0, 12, 23, 21)] :: ((wsL_remove_r1 ++ (wsL_remove_r2 ++ (wsL_remove_r3 ++ (wsL_remove_r4 ++ (wsL_remove_r5 ++ wsL_remove_r6))))) ++ wsX60 ++ wsX40 ++ wsJx4a65c0 ++ wsX00 ++ wsX30 ++ wsX50 ++ (vx_atS RX6 181 "java/lang/IndexOutOfBoundsException" ["java/lang/RuntimeException", "java/lang/Exception"]).filter goodWord ++ (vx_atS RX6 102 "java/lang/IllegalArgumentException" ["java/lang/RuntimeException", "java/lang/Exception"]).filter goodWord ++ (vx_atS RX6 132 "java/lang/IllegalStateException" ["java/lang/RuntimeException", "java/lang/Exception"]).filter goodWord)
def wsL_name_r1 : List Cond := [Cond.classLink RL 13 "java/lang/IndexOutOfBoundsException", Cond.classLink RL 15 "java/lang/IllegalArgumentException", Cond.classLink RL 21 "java/lang/IllegalStateException", Cond.methodLink RL 40 yX6_name, Cond.instanceMethod yX6_name, Cond.selects RX6 yX6_name yX6_name, Cond.initialized RX6, Cond.code yX6_name cX6_name 5 (some .int), Cond.fieldLink RX6 94 "ObjectMapper$Entity" "name" "I", Cond.methodLink RX6 33 yX6_sessionAt, Cond.instanceMethod yX6_sessionAt, Cond.selects RX6 yX6_sessionAt yX6_sessionAt, Cond.code yX6_sessionAt cX6_sessionAt 2 (some (.object "ObjectMapper$Session")), Cond.classLink RX6 177 "java/lang/IndexOutOfBoundsException", Cond.initialized "java/lang/IndexOutOfBoundsException", Cond.fieldLink RX6 28 "ObjectMapper" "sessions" "[LObjectMapper$Session;", Cond.methodLink RX6 49 yX6_checkKind, Cond.static yX6_checkKind, Cond.code yX6_checkKind cX6_checkKind 1 none, Cond.classLink RX6 98 "java/lang/IllegalArgumentException", Cond.initialized "java/lang/IllegalArgumentException", Cond.methodLink RX6 45 yX6_checkLive, Cond.static yX6_checkLive, Cond.code yX6_checkLive cX6_checkLive 3 none]
def wsL_name_r2 : List Cond := [Cond.classLink RX6 128 "java/lang/IllegalStateException", Cond.initialized "java/lang/IllegalStateException", Cond.methodLink RX6 60 yX4_entityAt, Cond.instanceMethod yX4_entityAt, Cond.selects RX4 yX4_entityAt yX4_entityAt, Cond.initialized RX4, Cond.code yX4_entityAt cX4_entityAt 4 (some (.object "ObjectMapper$Entity")), Cond.fieldLink RX4 24 "ObjectMapper$Session" "nobody" "LObjectMapper$Entity;", Cond.classLink RX4 21 "ObjectMapper$Entity", Cond.methodLink RX4 28 yX4_listOf, Cond.instanceMethod yX4_listOf, Cond.selects RX4 yX4_listOf yX4_listOf, Cond.code yX4_listOf cX4_listOf 2 (some (.object "java/util/ArrayList")), Cond.fieldLink RX4 12 "ObjectMapper$Session" "authorPlaces" "Ljava/util/ArrayList;", Cond.fieldLink RX4 18 "ObjectMapper$Session" "bookPlaces" "Ljava/util/ArrayList;", Cond.methodLink RX4 32 yJx4a65c_size_8abf5, Cond.instanceMethod yJx4a65c_size_8abf5, Cond.selects RJx4a65c yJx4a65c_size_8abf5 yJx4a65c_size_8abf5, Cond.initialized RJx4a65c, Cond.code yJx4a65c_size_8abf5 cJx4a65c_size_8abf5 1 (some .int), Cond.fieldLink RJx4a65c 48 "java/util/ArrayList" "size" "I", Cond.methodLink RX4 40 yJx4a65c_get_915e3, Cond.instanceMethod yJx4a65c_get_915e3, Cond.selects RJx4a65c yJx4a65c_get_915e3 yJx4a65c_get_915e3]
def wsL_name_r3 : List Cond := [Cond.code yJx4a65c_get_915e3 cJx4a65c_get_915e3 2 (some (.object "java/lang/Object")), Cond.methodLink RJx4a65c 118 yJ15_checkIndex_7cf53, Cond.static yJ15_checkIndex_7cf53, Cond.initialized RJ15, Cond.code yJ15_checkIndex_7cf53 cJ15_checkIndex_7cf53 2 (some .int), Cond.methodLink RJ15 105 yJ3_checkIndex_8e157, Cond.static yJ3_checkIndex_8e157, Cond.initialized RJ3, Cond.code yJ3_checkIndex_8e157 cJ3_checkIndex_8e157 3 (some .int), Cond.methodLink RJx4a65c 123 yJx4a65c_elementData_915e3, Cond.instanceMethod yJx4a65c_elementData_915e3, Cond.selects RJx4a65c yJx4a65c_elementData_915e3 yJx4a65c_elementData_915e3, Cond.code yJx4a65c_elementData_915e3 cJx4a65c_elementData_915e3 2 (some (.object "java/lang/Object")), Cond.fieldLink RJx4a65c 9 "java/util/ArrayList" "elementData" "[Ljava/lang/Object;", Cond.methodLink RX6 79 yX0_isLive, Cond.instanceMethod yX0_isLive, Cond.selects RX0 yX0_isLive yX0_isLive, Cond.initialized RX0, Cond.code yX0_isLive cX0_isLive 1 (some .boolean), Cond.fieldLink RX0 15 "ObjectMapper$Entity" "inSession" "Z", Cond.fieldLink RX0 49 "ObjectMapper$Entity" "struckOut" "Z"]
def wsL_name : List Cond := .codeWith yL_name cL_name 6 (some .int) [(0, 12, 15, 13), (0, 12, 19, 15), (0, 12, 23, 21)] :: ((wsL_name_r1 ++ (wsL_name_r2 ++ wsL_name_r3)) ++ wsX00 ++ wsX60 ++ wsX40 ++ wsJx4a65c0 ++ (vx_atS RX6 181 "java/lang/IndexOutOfBoundsException" ["java/lang/RuntimeException", "java/lang/Exception"]).filter goodWord ++ (vx_atS RX6 102 "java/lang/IllegalArgumentException" ["java/lang/RuntimeException", "java/lang/Exception"]).filter goodWord ++ (vx_atS RX6 132 "java/lang/IllegalStateException" ["java/lang/RuntimeException", "java/lang/Exception"]).filter goodWord)
def wsL_reference_r1 : List Cond := [Cond.classLink RL 13 "java/lang/IndexOutOfBoundsException", Cond.classLink RL 15 "java/lang/IllegalArgumentException", Cond.classLink RL 21 "java/lang/IllegalStateException", Cond.methodLink RL 43 yX6_reference, Cond.instanceMethod yX6_reference, Cond.selects RX6 yX6_reference yX6_reference, Cond.initialized RX6, Cond.code yX6_reference cX6_reference 5 (some .int), Cond.fieldLink RX6 108 "ObjectMapper$Entity" "reference" "I", Cond.methodLink RX6 33 yX6_sessionAt, Cond.instanceMethod yX6_sessionAt, Cond.selects RX6 yX6_sessionAt yX6_sessionAt, Cond.code yX6_sessionAt cX6_sessionAt 2 (some (.object "ObjectMapper$Session")), Cond.classLink RX6 177 "java/lang/IndexOutOfBoundsException", Cond.initialized "java/lang/IndexOutOfBoundsException", Cond.fieldLink RX6 28 "ObjectMapper" "sessions" "[LObjectMapper$Session;", Cond.methodLink RX6 49 yX6_checkKind, Cond.static yX6_checkKind, Cond.code yX6_checkKind cX6_checkKind 1 none, Cond.classLink RX6 98 "java/lang/IllegalArgumentException", Cond.initialized "java/lang/IllegalArgumentException", Cond.methodLink RX6 45 yX6_checkLive, Cond.static yX6_checkLive, Cond.code yX6_checkLive cX6_checkLive 3 none]
def wsL_reference_r2 : List Cond := [Cond.classLink RX6 128 "java/lang/IllegalStateException", Cond.initialized "java/lang/IllegalStateException", Cond.methodLink RX6 60 yX4_entityAt, Cond.instanceMethod yX4_entityAt, Cond.selects RX4 yX4_entityAt yX4_entityAt, Cond.initialized RX4, Cond.code yX4_entityAt cX4_entityAt 4 (some (.object "ObjectMapper$Entity")), Cond.fieldLink RX4 24 "ObjectMapper$Session" "nobody" "LObjectMapper$Entity;", Cond.classLink RX4 21 "ObjectMapper$Entity", Cond.methodLink RX4 28 yX4_listOf, Cond.instanceMethod yX4_listOf, Cond.selects RX4 yX4_listOf yX4_listOf, Cond.code yX4_listOf cX4_listOf 2 (some (.object "java/util/ArrayList")), Cond.fieldLink RX4 12 "ObjectMapper$Session" "authorPlaces" "Ljava/util/ArrayList;", Cond.fieldLink RX4 18 "ObjectMapper$Session" "bookPlaces" "Ljava/util/ArrayList;", Cond.methodLink RX4 32 yJx4a65c_size_8abf5, Cond.instanceMethod yJx4a65c_size_8abf5, Cond.selects RJx4a65c yJx4a65c_size_8abf5 yJx4a65c_size_8abf5, Cond.initialized RJx4a65c, Cond.code yJx4a65c_size_8abf5 cJx4a65c_size_8abf5 1 (some .int), Cond.fieldLink RJx4a65c 48 "java/util/ArrayList" "size" "I", Cond.methodLink RX4 40 yJx4a65c_get_915e3, Cond.instanceMethod yJx4a65c_get_915e3, Cond.selects RJx4a65c yJx4a65c_get_915e3 yJx4a65c_get_915e3]
def wsL_reference_r3 : List Cond := [Cond.code yJx4a65c_get_915e3 cJx4a65c_get_915e3 2 (some (.object "java/lang/Object")), Cond.methodLink RJx4a65c 118 yJ15_checkIndex_7cf53, Cond.static yJ15_checkIndex_7cf53, Cond.initialized RJ15, Cond.code yJ15_checkIndex_7cf53 cJ15_checkIndex_7cf53 2 (some .int), Cond.methodLink RJ15 105 yJ3_checkIndex_8e157, Cond.static yJ3_checkIndex_8e157, Cond.initialized RJ3, Cond.code yJ3_checkIndex_8e157 cJ3_checkIndex_8e157 3 (some .int), Cond.methodLink RJx4a65c 123 yJx4a65c_elementData_915e3, Cond.instanceMethod yJx4a65c_elementData_915e3, Cond.selects RJx4a65c yJx4a65c_elementData_915e3 yJx4a65c_elementData_915e3, Cond.code yJx4a65c_elementData_915e3 cJx4a65c_elementData_915e3 2 (some (.object "java/lang/Object")), Cond.fieldLink RJx4a65c 9 "java/util/ArrayList" "elementData" "[Ljava/lang/Object;", Cond.methodLink RX6 79 yX0_isLive, Cond.instanceMethod yX0_isLive, Cond.selects RX0 yX0_isLive yX0_isLive, Cond.initialized RX0, Cond.code yX0_isLive cX0_isLive 1 (some .boolean), Cond.fieldLink RX0 15 "ObjectMapper$Entity" "inSession" "Z", Cond.fieldLink RX0 49 "ObjectMapper$Entity" "struckOut" "Z"]
def wsL_reference : List Cond := .codeWith yL_reference cL_reference 6 (some .int) [(0, 12, 15, 13), (0, 12, 19, 15), (0, 12, 23, 21)] :: ((wsL_reference_r1 ++ (wsL_reference_r2 ++ wsL_reference_r3)) ++ wsX00 ++ wsX60 ++ wsX40 ++ wsJx4a65c0 ++ (vx_atS RX6 181 "java/lang/IndexOutOfBoundsException" ["java/lang/RuntimeException", "java/lang/Exception"]).filter goodWord ++ (vx_atS RX6 102 "java/lang/IllegalArgumentException" ["java/lang/RuntimeException", "java/lang/Exception"]).filter goodWord ++ (vx_atS RX6 132 "java/lang/IllegalStateException" ["java/lang/RuntimeException", "java/lang/Exception"]).filter goodWord)
def wsL_known_r1 : List Cond := [Cond.classLink RL 13 "java/lang/IndexOutOfBoundsException", Cond.methodLink RL 46 yX6_known, Cond.instanceMethod yX6_known, Cond.selects RX6 yX6_known yX6_known, Cond.initialized RX6, Cond.code yX6_known cX6_known 3 (some .int), Cond.methodLink RX6 33 yX6_sessionAt, Cond.instanceMethod yX6_sessionAt, Cond.selects RX6 yX6_sessionAt yX6_sessionAt, Cond.code yX6_sessionAt cX6_sessionAt 2 (some (.object "ObjectMapper$Session")), Cond.classLink RX6 177 "java/lang/IndexOutOfBoundsException", Cond.initialized "java/lang/IndexOutOfBoundsException", Cond.fieldLink RX6 28 "ObjectMapper" "sessions" "[LObjectMapper$Session;", Cond.methodLink RX6 119 yX4_countLive, Cond.instanceMethod yX4_countLive, Cond.selects RX4 yX4_countLive yX4_countLive, Cond.initialized RX4, Cond.code yX4_countLive cX4_countLive 4 (some .int), Cond.methodLink RX4 44 yX4_sizeOf, Cond.instanceMethod yX4_sizeOf, Cond.selects RX4 yX4_sizeOf yX4_sizeOf, Cond.code yX4_sizeOf cX4_sizeOf 2 (some .int), Cond.methodLink RX4 28 yX4_listOf, Cond.instanceMethod yX4_listOf]
def wsL_known_r2 : List Cond := [Cond.selects RX4 yX4_listOf yX4_listOf, Cond.code yX4_listOf cX4_listOf 2 (some (.object "java/util/ArrayList")), Cond.fieldLink RX4 12 "ObjectMapper$Session" "authorPlaces" "Ljava/util/ArrayList;", Cond.fieldLink RX4 18 "ObjectMapper$Session" "bookPlaces" "Ljava/util/ArrayList;", Cond.methodLink RX4 32 yJx4a65c_size_8abf5, Cond.instanceMethod yJx4a65c_size_8abf5, Cond.selects RJx4a65c yJx4a65c_size_8abf5 yJx4a65c_size_8abf5, Cond.initialized RJx4a65c, Cond.code yJx4a65c_size_8abf5 cJx4a65c_size_8abf5 1 (some .int), Cond.fieldLink RJx4a65c 48 "java/util/ArrayList" "size" "I", Cond.methodLink RX4 48 yX4_entityAt, Cond.instanceMethod yX4_entityAt, Cond.selects RX4 yX4_entityAt yX4_entityAt, Cond.code yX4_entityAt cX4_entityAt 4 (some (.object "ObjectMapper$Entity")), Cond.fieldLink RX4 24 "ObjectMapper$Session" "nobody" "LObjectMapper$Entity;", Cond.classLink RX4 21 "ObjectMapper$Entity", Cond.methodLink RX4 40 yJx4a65c_get_915e3, Cond.instanceMethod yJx4a65c_get_915e3, Cond.selects RJx4a65c yJx4a65c_get_915e3 yJx4a65c_get_915e3, Cond.code yJx4a65c_get_915e3 cJx4a65c_get_915e3 2 (some (.object "java/lang/Object")), Cond.methodLink RJx4a65c 118 yJ15_checkIndex_7cf53, Cond.static yJ15_checkIndex_7cf53, Cond.initialized RJ15, Cond.code yJ15_checkIndex_7cf53 cJ15_checkIndex_7cf53 2 (some .int)]
def wsL_known_r3 : List Cond := [Cond.methodLink RJ15 105 yJ3_checkIndex_8e157, Cond.static yJ3_checkIndex_8e157, Cond.initialized RJ3, Cond.code yJ3_checkIndex_8e157 cJ3_checkIndex_8e157 3 (some .int), Cond.methodLink RJx4a65c 123 yJx4a65c_elementData_915e3, Cond.instanceMethod yJx4a65c_elementData_915e3, Cond.selects RJx4a65c yJx4a65c_elementData_915e3 yJx4a65c_elementData_915e3, Cond.code yJx4a65c_elementData_915e3 cJx4a65c_elementData_915e3 2 (some (.object "java/lang/Object")), Cond.fieldLink RJx4a65c 9 "java/util/ArrayList" "elementData" "[Ljava/lang/Object;", Cond.methodLink RX4 52 yX0_isLive, Cond.instanceMethod yX0_isLive, Cond.selects RX0 yX0_isLive yX0_isLive, Cond.initialized RX0, Cond.code yX0_isLive cX0_isLive 1 (some .boolean), Cond.fieldLink RX0 15 "ObjectMapper$Entity" "inSession" "Z", Cond.fieldLink RX0 49 "ObjectMapper$Entity" "struckOut" "Z"]
def wsL_known : List Cond := .codeWith yL_known cL_known 4 (some .int) [(0, 9, 12, 13)] :: ((wsL_known_r1 ++ (wsL_known_r2 ++ wsL_known_r3)) ++ wsX60 ++ wsX40 ++ wsJx4a65c0 ++ wsX00 ++ (vx_atS RX6 181 "java/lang/IndexOutOfBoundsException" ["java/lang/RuntimeException", "java/lang/Exception"]).filter goodWord)
def wsL_dirty_r1 : List Cond := [Cond.classLink RL 13 "java/lang/IndexOutOfBoundsException", Cond.methodLink RL 50 yX6_dirty, Cond.instanceMethod yX6_dirty, Cond.selects RX6 yX6_dirty yX6_dirty, Cond.initialized RX6, Cond.code yX6_dirty cX6_dirty 3 (some .int), Cond.methodLink RX6 33 yX6_sessionAt, Cond.instanceMethod yX6_sessionAt, Cond.selects RX6 yX6_sessionAt yX6_sessionAt, Cond.code yX6_sessionAt cX6_sessionAt 2 (some (.object "ObjectMapper$Session")), Cond.classLink RX6 177 "java/lang/IndexOutOfBoundsException", Cond.initialized "java/lang/IndexOutOfBoundsException", Cond.fieldLink RX6 28 "ObjectMapper" "sessions" "[LObjectMapper$Session;", Cond.methodLink RX6 122 yX4_countLiveAndDirty, Cond.instanceMethod yX4_countLiveAndDirty, Cond.selects RX4 yX4_countLiveAndDirty yX4_countLiveAndDirty, Cond.initialized RX4, Cond.code yX4_countLiveAndDirty cX4_countLiveAndDirty 5 (some .int), Cond.methodLink RX4 44 yX4_sizeOf, Cond.instanceMethod yX4_sizeOf, Cond.selects RX4 yX4_sizeOf yX4_sizeOf, Cond.code yX4_sizeOf cX4_sizeOf 2 (some .int), Cond.methodLink RX4 28 yX4_listOf, Cond.instanceMethod yX4_listOf]
def wsL_dirty_r2 : List Cond := [Cond.selects RX4 yX4_listOf yX4_listOf, Cond.code yX4_listOf cX4_listOf 2 (some (.object "java/util/ArrayList")), Cond.fieldLink RX4 12 "ObjectMapper$Session" "authorPlaces" "Ljava/util/ArrayList;", Cond.fieldLink RX4 18 "ObjectMapper$Session" "bookPlaces" "Ljava/util/ArrayList;", Cond.methodLink RX4 32 yJx4a65c_size_8abf5, Cond.instanceMethod yJx4a65c_size_8abf5, Cond.selects RJx4a65c yJx4a65c_size_8abf5 yJx4a65c_size_8abf5, Cond.initialized RJx4a65c, Cond.code yJx4a65c_size_8abf5 cJx4a65c_size_8abf5 1 (some .int), Cond.fieldLink RJx4a65c 48 "java/util/ArrayList" "size" "I", Cond.methodLink RX4 48 yX4_entityAt, Cond.instanceMethod yX4_entityAt, Cond.selects RX4 yX4_entityAt yX4_entityAt, Cond.code yX4_entityAt cX4_entityAt 4 (some (.object "ObjectMapper$Entity")), Cond.fieldLink RX4 24 "ObjectMapper$Session" "nobody" "LObjectMapper$Entity;", Cond.classLink RX4 21 "ObjectMapper$Entity", Cond.methodLink RX4 40 yJx4a65c_get_915e3, Cond.instanceMethod yJx4a65c_get_915e3, Cond.selects RJx4a65c yJx4a65c_get_915e3 yJx4a65c_get_915e3, Cond.code yJx4a65c_get_915e3 cJx4a65c_get_915e3 2 (some (.object "java/lang/Object")), Cond.methodLink RJx4a65c 118 yJ15_checkIndex_7cf53, Cond.static yJ15_checkIndex_7cf53, Cond.initialized RJ15, Cond.code yJ15_checkIndex_7cf53 cJ15_checkIndex_7cf53 2 (some .int)]
def wsL_dirty_r3 : List Cond := [Cond.methodLink RJ15 105 yJ3_checkIndex_8e157, Cond.static yJ3_checkIndex_8e157, Cond.initialized RJ3, Cond.code yJ3_checkIndex_8e157 cJ3_checkIndex_8e157 3 (some .int), Cond.methodLink RJx4a65c 123 yJx4a65c_elementData_915e3, Cond.instanceMethod yJx4a65c_elementData_915e3, Cond.selects RJx4a65c yJx4a65c_elementData_915e3 yJx4a65c_elementData_915e3, Cond.code yJx4a65c_elementData_915e3 cJx4a65c_elementData_915e3 2 (some (.object "java/lang/Object")), Cond.fieldLink RJx4a65c 9 "java/util/ArrayList" "elementData" "[Ljava/lang/Object;", Cond.methodLink RX4 52 yX0_isLive, Cond.instanceMethod yX0_isLive, Cond.selects RX0 yX0_isLive yX0_isLive, Cond.initialized RX0, Cond.code yX0_isLive cX0_isLive 1 (some .boolean), Cond.fieldLink RX0 15 "ObjectMapper$Entity" "inSession" "Z", Cond.fieldLink RX0 49 "ObjectMapper$Entity" "struckOut" "Z", Cond.methodLink RX4 56 yX0_isChanged, Cond.instanceMethod yX0_isChanged, Cond.selects RX0 yX0_isChanged yX0_isChanged, Cond.code yX0_isChanged cX0_isChanged 1 (some .boolean), Cond.fieldLink RX0 34 "ObjectMapper$Entity" "hasSnapshot" "Z", Cond.fieldLink RX0 19 "ObjectMapper$Entity" "name" "I", Cond.fieldLink RX0 37 "ObjectMapper$Entity" "snapshotName" "I", Cond.fieldLink RX0 9 "ObjectMapper$Entity" "reference" "I"]
def wsL_dirty_r4 : List Cond := [Cond.fieldLink RX0 40 "ObjectMapper$Entity" "snapshotReference" "I"]
def wsL_dirty : List Cond := .codeWith yL_dirty cL_dirty 4 (some .int) [(0, 9, 12, 13)] :: ((wsL_dirty_r1 ++ (wsL_dirty_r2 ++ (wsL_dirty_r3 ++ wsL_dirty_r4))) ++ wsX60 ++ wsX40 ++ wsJx4a65c0 ++ wsX00 ++ (vx_atS RX6 181 "java/lang/IndexOutOfBoundsException" ["java/lang/RuntimeException", "java/lang/Exception"]).filter goodWord)
def wsL_flush_r1 : List Cond := [Cond.classLink RL 13 "java/lang/IndexOutOfBoundsException", Cond.classLink RL 21 "java/lang/IllegalStateException", Cond.methodLink RL 53 yX6_flush, Cond.instanceMethod yX6_flush, Cond.selects RX6 yX6_flush yX6_flush, Cond.initialized RX6, Cond.code yX6_flush cX6_flush 5 (some .int), Cond.classLink RX6 128 "java/lang/IllegalStateException", Cond.initialized "java/lang/IllegalStateException", Cond.fieldLink RX6 22 "ObjectMapper" "journal" "LObjectMapper$Journal;", Cond.classLink RX6 133 RX1, Cond.instantiable RX1 4, Cond.initialized RX1, Cond.fieldLink RX6 10 "ObjectMapper" "authorTable" "LObjectMapper$Table;", Cond.fieldLink RX6 16 "ObjectMapper" "bookTable" "LObjectMapper$Table;", Cond.fieldLink RX6 146 "ObjectMapper$Journal" "size" "I", Cond.methodLink RX6 33 yX6_sessionAt, Cond.instanceMethod yX6_sessionAt, Cond.selects RX6 yX6_sessionAt yX6_sessionAt, Cond.code yX6_sessionAt cX6_sessionAt 2 (some (.object "ObjectMapper$Session")), Cond.classLink RX6 177 "java/lang/IndexOutOfBoundsException", Cond.initialized "java/lang/IndexOutOfBoundsException", Cond.fieldLink RX6 28 "ObjectMapper" "sessions" "[LObjectMapper$Session;", Cond.methodLink RX6 125 yX2_isFull]
def wsL_flush_r2 : List Cond := [Cond.instanceMethod yX2_isFull, Cond.selects RX2 yX2_isFull yX2_isFull, Cond.initialized RX2, Cond.code yX2_isFull cX2_isFull 1 (some .boolean), Cond.fieldLink RX2 18 "ObjectMapper$Journal" "size" "I", Cond.methodLink RX6 135 yX1_init, Cond.instanceMethod yX1_init, Cond.code yX1_init cX1_init 5 none, Cond.methodLink RX1 3 objectInit, Cond.instanceMethod objectInit, Cond.code objectInit ⟨#[0xb1]⟩ 1 none, Cond.fieldLink RX1 9 "ObjectMapper$Flush" "session" "LObjectMapper$Session;", Cond.fieldLink RX1 15 "ObjectMapper$Flush" "authorTable" "LObjectMapper$Table;", Cond.fieldLink RX1 19 "ObjectMapper$Flush" "bookTable" "LObjectMapper$Table;", Cond.fieldLink RX1 22 "ObjectMapper$Flush" "journal" "LObjectMapper$Journal;", Cond.methodLink RX6 138 yX1_clashes, Cond.instanceMethod yX1_clashes, Cond.selects RX1 yX1_clashes yX1_clashes, Cond.code yX1_clashes cX1_clashes 1 (some .boolean), Cond.methodLink RX1 26 yX1_clashesIn, Cond.instanceMethod yX1_clashesIn, Cond.selects RX1 yX1_clashesIn yX1_clashesIn, Cond.code yX1_clashesIn cX1_clashesIn 3 (some .boolean), Cond.methodLink RX1 30 yX4_sizeOf]
def wsL_flush_r3 : List Cond := [Cond.instanceMethod yX4_sizeOf, Cond.selects RX4 yX4_sizeOf yX4_sizeOf, Cond.initialized RX4, Cond.code yX4_sizeOf cX4_sizeOf 2 (some .int), Cond.methodLink RX4 28 yX4_listOf, Cond.instanceMethod yX4_listOf, Cond.selects RX4 yX4_listOf yX4_listOf, Cond.code yX4_listOf cX4_listOf 2 (some (.object "java/util/ArrayList")), Cond.fieldLink RX4 12 "ObjectMapper$Session" "authorPlaces" "Ljava/util/ArrayList;", Cond.fieldLink RX4 18 "ObjectMapper$Session" "bookPlaces" "Ljava/util/ArrayList;", Cond.methodLink RX4 32 yJx4a65c_size_8abf5, Cond.instanceMethod yJx4a65c_size_8abf5, Cond.selects RJx4a65c yJx4a65c_size_8abf5 yJx4a65c_size_8abf5, Cond.initialized RJx4a65c, Cond.code yJx4a65c_size_8abf5 cJx4a65c_size_8abf5 1 (some .int), Cond.fieldLink RJx4a65c 48 "java/util/ArrayList" "size" "I", Cond.methodLink RX1 36 yX4_entityAt, Cond.instanceMethod yX4_entityAt, Cond.selects RX4 yX4_entityAt yX4_entityAt, Cond.code yX4_entityAt cX4_entityAt 4 (some (.object "ObjectMapper$Entity")), Cond.fieldLink RX4 24 "ObjectMapper$Session" "nobody" "LObjectMapper$Entity;", Cond.classLink RX4 21 "ObjectMapper$Entity", Cond.methodLink RX4 40 yJx4a65c_get_915e3, Cond.instanceMethod yJx4a65c_get_915e3]
def wsL_flush_r4 : List Cond := [Cond.selects RJx4a65c yJx4a65c_get_915e3 yJx4a65c_get_915e3, Cond.code yJx4a65c_get_915e3 cJx4a65c_get_915e3 2 (some (.object "java/lang/Object")), Cond.methodLink RJx4a65c 118 yJ15_checkIndex_7cf53, Cond.static yJ15_checkIndex_7cf53, Cond.initialized RJ15, Cond.code yJ15_checkIndex_7cf53 cJ15_checkIndex_7cf53 2 (some .int), Cond.methodLink RJ15 105 yJ3_checkIndex_8e157, Cond.static yJ3_checkIndex_8e157, Cond.initialized RJ3, Cond.code yJ3_checkIndex_8e157 cJ3_checkIndex_8e157 3 (some .int), Cond.methodLink RJx4a65c 123 yJx4a65c_elementData_915e3, Cond.instanceMethod yJx4a65c_elementData_915e3, Cond.selects RJx4a65c yJx4a65c_elementData_915e3 yJx4a65c_elementData_915e3, Cond.code yJx4a65c_elementData_915e3 cJx4a65c_elementData_915e3 2 (some (.object "java/lang/Object")), Cond.fieldLink RJx4a65c 9 "java/util/ArrayList" "elementData" "[Ljava/lang/Object;", Cond.methodLink RX1 40 yX1_tableFor, Cond.instanceMethod yX1_tableFor, Cond.selects RX1 yX1_tableFor yX1_tableFor, Cond.code yX1_tableFor cX1_tableFor 2 (some (.object "ObjectMapper$Table")), Cond.methodLink RX1 44 yX5_rowAt, Cond.instanceMethod yX5_rowAt, Cond.selects RX5 yX5_rowAt yX5_rowAt, Cond.initialized RX5, Cond.code yX5_rowAt cX5_rowAt 2 (some (.object "ObjectMapper$Row"))]
def wsL_flush_r5 : List Cond := [Cond.fieldLink RX5 10 "ObjectMapper$Table" "places" "Ljava/util/ArrayList;", Cond.fieldLink RX5 19 "ObjectMapper$Table" "noRow" "LObjectMapper$Row;", Cond.classLink RX5 16 "ObjectMapper$Row", Cond.methodLink RX5 23 yJx4a65c_size_8abf5, Cond.methodLink RX5 31 yJx4a65c_get_915e3, Cond.methodLink RX1 50 yX0_clashesWith, Cond.instanceMethod yX0_clashesWith, Cond.selects RX0 yX0_clashesWith yX0_clashesWith, Cond.initialized RX0, Cond.code yX0_clashesWith cX0_clashesWith 2 (some .boolean), Cond.fieldLink RX0 49 "ObjectMapper$Entity" "struckOut" "Z", Cond.fieldLink RX0 62 "ObjectMapper$Row" "there" "Z", Cond.fieldLink RX0 43 "ObjectMapper$Row" "version" "I", Cond.fieldLink RX0 46 "ObjectMapper$Entity" "snapshotVersion" "I", Cond.methodLink RX0 59 yX0_isChanged, Cond.instanceMethod yX0_isChanged, Cond.selects RX0 yX0_isChanged yX0_isChanged, Cond.code yX0_isChanged cX0_isChanged 1 (some .boolean), Cond.fieldLink RX0 34 "ObjectMapper$Entity" "hasSnapshot" "Z", Cond.fieldLink RX0 19 "ObjectMapper$Entity" "name" "I", Cond.fieldLink RX0 37 "ObjectMapper$Entity" "snapshotName" "I", Cond.fieldLink RX0 9 "ObjectMapper$Entity" "reference" "I", Cond.fieldLink RX0 40 "ObjectMapper$Entity" "snapshotReference" "I", Cond.methodLink RX6 141 yX1_leavesDanglingReference]
def wsL_flush_r6 : List Cond := [Cond.instanceMethod yX1_leavesDanglingReference, Cond.selects RX1 yX1_leavesDanglingReference yX1_leavesDanglingReference, Cond.code yX1_leavesDanglingReference cX1_leavesDanglingReference 1 (some .boolean), Cond.methodLink RX1 56 yX1_leavesDanglingIn, Cond.instanceMethod yX1_leavesDanglingIn, Cond.selects RX1 yX1_leavesDanglingIn yX1_leavesDanglingIn, Cond.code yX1_leavesDanglingIn cX1_leavesDanglingIn 4 (some .boolean), Cond.methodLink RX1 59 yX1_referenceBehind, Cond.instanceMethod yX1_referenceBehind, Cond.selects RX1 yX1_referenceBehind yX1_referenceBehind, Cond.code yX1_referenceBehind cX1_referenceBehind 4 (some .int), Cond.fieldLink RX1 86 "ObjectMapper$Entity" "reference" "I", Cond.fieldLink RX1 90 "ObjectMapper$Row" "reference" "I", Cond.methodLink RX1 70 yX0_isNew, Cond.instanceMethod yX0_isNew, Cond.selects RX0 yX0_isNew yX0_isNew, Cond.code yX0_isNew cX0_isNew 1 (some .boolean), Cond.fieldLink RX0 15 "ObjectMapper$Entity" "inSession" "Z", Cond.methodLink RX1 83 yX0_isChanged, Cond.methodLink RX1 63 yX1_isThereBehind, Cond.instanceMethod yX1_isThereBehind, Cond.selects RX1 yX1_isThereBehind yX1_isThereBehind, Cond.code yX1_isThereBehind cX1_isThereBehind 4 (some .boolean), Cond.fieldLink RX1 74 "ObjectMapper$Entity" "struckOut" "Z"]
def wsL_flush_r7 : List Cond := [Cond.fieldLink RX1 78 "ObjectMapper$Row" "there" "Z", Cond.static yX6_otherKind, Cond.code yX6_otherKind cX6_otherKind 1 (some .int), Cond.methodLink RX6 149 yX1_doWrites, Cond.instanceMethod yX1_doWrites, Cond.selects RX1 yX1_doWrites yX1_doWrites, Cond.code yX1_doWrites cX1_doWrites 1 none, Cond.methodLink RX1 91 yX1_insertAuthors, Cond.instanceMethod yX1_insertAuthors, Cond.selects RX1 yX1_insertAuthors yX1_insertAuthors, Cond.code yX1_insertAuthors cX1_insertAuthors 4 none, Cond.methodLink RX1 104 yX1_insert, Cond.instanceMethod yX1_insert, Cond.selects RX1 yX1_insert yX1_insert, Cond.code yX1_insert cX1_insert 6 none, Cond.fieldLink RX1 108 "ObjectMapper$Entity" "name" "I", Cond.methodLink RX1 111 yX3_insert, Cond.instanceMethod yX3_insert, Cond.selects RX3 yX3_insert yX3_insert, Cond.initialized RX3, Cond.code yX3_insert cX3_insert 3 none, Cond.fieldLink RX3 15 "ObjectMapper$Row" "there" "Z", Cond.fieldLink RX3 19 "ObjectMapper$Row" "name" "I", Cond.fieldLink RX3 9 "ObjectMapper$Row" "reference" "I"]
def wsL_flush_r8 : List Cond := [Cond.fieldLink RX3 22 "ObjectMapper$Row" "version" "I", Cond.methodLink RX1 114 yX2_note, Cond.instanceMethod yX2_note, Cond.selects RX2 yX2_note yX2_note, Cond.code yX2_note cX2_note 4 none, Cond.fieldLink RX2 11 "ObjectMapper$Journal" "actions" "[I", Cond.fieldLink RX2 15 "ObjectMapper$Journal" "rowNumbers" "[I", Cond.methodLink RX2 22 yJ7_copyOf_59c91, Cond.static yJ7_copyOf_59c91, Cond.initialized RJ7, Cond.code yJ7_copyOf_59c91 cJ7_copyOf_59c91 3 (some (.array .int)), Cond.methodLink RJ7 316 ⟨"[I", "clone", "()Ljava/lang/Object;"⟩, Cond.sameMethod "[I" "java/lang/Object" "clone" "()Ljava/lang/Object;", Cond.native ⟨"java/lang/Object", "clone", "()Ljava/lang/Object;"⟩, Cond.instanceMethod ⟨"java/lang/Object", "clone", "()Ljava/lang/Object;"⟩, Cond.selects "[I" ⟨"[I", "clone", "()Ljava/lang/Object;"⟩ ⟨"java/lang/Object", "clone", "()Ljava/lang/Object;"⟩, Cond.classLink RJ7 317 "[I", Cond.arrayClass .int, Cond.methodLink RJ7 304 Lib.Math.min.name, Cond.static Lib.Math.min.name, Cond.initialized "java/lang/Math", Cond.code Lib.Math.min.name Lib.Math.min.code 2 (some .int), Cond.methodLink RJ7 150 arraycopyName, Cond.native arraycopyName]
def wsL_flush_r9 : List Cond := [Cond.static arraycopyName, Cond.initialized "java/lang/System", Cond.methodLink RX1 120 yX0_takeSnapshot, Cond.instanceMethod yX0_takeSnapshot, Cond.selects RX0 yX0_takeSnapshot yX0_takeSnapshot, Cond.code yX0_takeSnapshot cX0_takeSnapshot 2 none, Cond.fieldLink RX0 22 "ObjectMapper$Row" "name" "I", Cond.fieldLink RX0 25 "ObjectMapper$Row" "reference" "I", Cond.methodLink RX1 94 yX1_insertBooks, Cond.instanceMethod yX1_insertBooks, Cond.selects RX1 yX1_insertBooks yX1_insertBooks, Cond.code yX1_insertBooks cX1_insertBooks 3 none, Cond.methodLink RX1 97 yX1_updateChanged, Cond.instanceMethod yX1_updateChanged, Cond.selects RX1 yX1_updateChanged yX1_updateChanged, Cond.code yX1_updateChanged cX1_updateChanged 5 none, Cond.methodLink RX1 124 yX3_update, Cond.instanceMethod yX3_update, Cond.selects RX3 yX3_update yX3_update, Cond.code yX3_update cX3_update 3 none, Cond.methodLink RX1 101 yX1_deleteStruckOut, Cond.instanceMethod yX1_deleteStruckOut, Cond.selects RX1 yX1_deleteStruckOut yX1_deleteStruckOut, Cond.code yX1_deleteStruckOut cX1_deleteStruckOut 4 none]
def wsL_flush_r10 : List Cond := [Cond.methodLink RX1 127 yX0_forget, Cond.instanceMethod yX0_forget, Cond.selects RX0 yX0_forget yX0_forget, Cond.code yX0_forget cX0_forget 1 none]
def wsL_flush : List Cond := .codeWith yL_flush cL_flush 4 (some .int) [(0, 9, 12, 13), (0, 9, 15, 21)] :: ((wsL_flush_r1 ++ (wsL_flush_r2 ++ (wsL_flush_r3 ++ (wsL_flush_r4 ++ (wsL_flush_r5 ++ (wsL_flush_r6 ++ (wsL_flush_r7 ++ (wsL_flush_r8 ++ (wsL_flush_r9 ++ wsL_flush_r10))))))))) ++ wsX60 ++ wsX10 ++ wsX20 ++ wsX40 ++ wsJx4a65c0 ++ wsX50 ++ wsX00 ++ wsX30 ++ (vx_atS RX6 132 "java/lang/IllegalStateException" ["java/lang/RuntimeException", "java/lang/Exception"]).filter goodWord ++ (vx_atS RX6 181 "java/lang/IndexOutOfBoundsException" ["java/lang/RuntimeException", "java/lang/Exception"]).filter goodWord)
def wsL_clear_r1 : List Cond := [Cond.classLink RL 13 "java/lang/IndexOutOfBoundsException", Cond.methodLink RL 56 yX6_clear, Cond.instanceMethod yX6_clear, Cond.selects RX6 yX6_clear yX6_clear, Cond.initialized RX6, Cond.code yX6_clear cX6_clear 4 (some .int), Cond.methodLink RX6 33 yX6_sessionAt, Cond.instanceMethod yX6_sessionAt, Cond.selects RX6 yX6_sessionAt yX6_sessionAt, Cond.code yX6_sessionAt cX6_sessionAt 2 (some (.object "ObjectMapper$Session")), Cond.classLink RX6 177 "java/lang/IndexOutOfBoundsException", Cond.initialized "java/lang/IndexOutOfBoundsException", Cond.fieldLink RX6 28 "ObjectMapper" "sessions" "[LObjectMapper$Session;", Cond.methodLink RX6 119 yX4_countLive, Cond.instanceMethod yX4_countLive, Cond.selects RX4 yX4_countLive yX4_countLive, Cond.initialized RX4, Cond.code yX4_countLive cX4_countLive 4 (some .int), Cond.methodLink RX4 44 yX4_sizeOf, Cond.instanceMethod yX4_sizeOf, Cond.selects RX4 yX4_sizeOf yX4_sizeOf, Cond.code yX4_sizeOf cX4_sizeOf 2 (some .int), Cond.methodLink RX4 28 yX4_listOf, Cond.instanceMethod yX4_listOf]
def wsL_clear_r2 : List Cond := [Cond.selects RX4 yX4_listOf yX4_listOf, Cond.code yX4_listOf cX4_listOf 2 (some (.object "java/util/ArrayList")), Cond.fieldLink RX4 12 "ObjectMapper$Session" "authorPlaces" "Ljava/util/ArrayList;", Cond.fieldLink RX4 18 "ObjectMapper$Session" "bookPlaces" "Ljava/util/ArrayList;", Cond.methodLink RX4 32 yJx4a65c_size_8abf5, Cond.instanceMethod yJx4a65c_size_8abf5, Cond.selects RJx4a65c yJx4a65c_size_8abf5 yJx4a65c_size_8abf5, Cond.initialized RJx4a65c, Cond.code yJx4a65c_size_8abf5 cJx4a65c_size_8abf5 1 (some .int), Cond.fieldLink RJx4a65c 48 "java/util/ArrayList" "size" "I", Cond.methodLink RX4 48 yX4_entityAt, Cond.instanceMethod yX4_entityAt, Cond.selects RX4 yX4_entityAt yX4_entityAt, Cond.code yX4_entityAt cX4_entityAt 4 (some (.object "ObjectMapper$Entity")), Cond.fieldLink RX4 24 "ObjectMapper$Session" "nobody" "LObjectMapper$Entity;", Cond.classLink RX4 21 "ObjectMapper$Entity", Cond.methodLink RX4 40 yJx4a65c_get_915e3, Cond.instanceMethod yJx4a65c_get_915e3, Cond.selects RJx4a65c yJx4a65c_get_915e3 yJx4a65c_get_915e3, Cond.code yJx4a65c_get_915e3 cJx4a65c_get_915e3 2 (some (.object "java/lang/Object")), Cond.methodLink RJx4a65c 118 yJ15_checkIndex_7cf53, Cond.static yJ15_checkIndex_7cf53, Cond.initialized RJ15, Cond.code yJ15_checkIndex_7cf53 cJ15_checkIndex_7cf53 2 (some .int)]
def wsL_clear_r3 : List Cond := [Cond.methodLink RJ15 105 yJ3_checkIndex_8e157, Cond.static yJ3_checkIndex_8e157, Cond.initialized RJ3, Cond.code yJ3_checkIndex_8e157 cJ3_checkIndex_8e157 3 (some .int), Cond.methodLink RJx4a65c 123 yJx4a65c_elementData_915e3, Cond.instanceMethod yJx4a65c_elementData_915e3, Cond.selects RJx4a65c yJx4a65c_elementData_915e3 yJx4a65c_elementData_915e3, Cond.code yJx4a65c_elementData_915e3 cJx4a65c_elementData_915e3 2 (some (.object "java/lang/Object")), Cond.fieldLink RJx4a65c 9 "java/util/ArrayList" "elementData" "[Ljava/lang/Object;", Cond.methodLink RX4 52 yX0_isLive, Cond.instanceMethod yX0_isLive, Cond.selects RX0 yX0_isLive yX0_isLive, Cond.initialized RX0, Cond.code yX0_isLive cX0_isLive 1 (some .boolean), Cond.fieldLink RX0 15 "ObjectMapper$Entity" "inSession" "Z", Cond.fieldLink RX0 49 "ObjectMapper$Entity" "struckOut" "Z", Cond.methodLink RX6 152 yX4_forgetAll, Cond.instanceMethod yX4_forgetAll, Cond.selects RX4 yX4_forgetAll yX4_forgetAll, Cond.code yX4_forgetAll cX4_forgetAll 3 none, Cond.methodLink RX4 59 yX0_forget, Cond.instanceMethod yX0_forget, Cond.selects RX0 yX0_forget yX0_forget, Cond.code yX0_forget cX0_forget 1 none]
def wsL_clear_r4 : List Cond := [Cond.fieldLink RX0 34 "ObjectMapper$Entity" "hasSnapshot" "Z"]
def wsL_clear : List Cond := .codeWith yL_clear cL_clear 4 (some .int) [(0, 9, 12, 13)] :: ((wsL_clear_r1 ++ (wsL_clear_r2 ++ (wsL_clear_r3 ++ wsL_clear_r4))) ++ wsX60 ++ wsX40 ++ wsJx4a65c0 ++ wsX00 ++ (vx_atS RX6 181 "java/lang/IndexOutOfBoundsException" ["java/lang/RuntimeException", "java/lang/Exception"]).filter goodWord)
def wsL_rows_r1 : List Cond := [Cond.classLink RL 15 "java/lang/IllegalArgumentException", Cond.methodLink RL 59 yX6_rows, Cond.instanceMethod yX6_rows, Cond.selects RX6 yX6_rows yX6_rows, Cond.initialized RX6, Cond.code yX6_rows cX6_rows 2 (some .int), Cond.methodLink RX6 49 yX6_checkKind, Cond.static yX6_checkKind, Cond.code yX6_checkKind cX6_checkKind 1 none, Cond.classLink RX6 98 "java/lang/IllegalArgumentException", Cond.initialized "java/lang/IllegalArgumentException", Cond.methodLink RX6 52 yX6_tableOf, Cond.instanceMethod yX6_tableOf, Cond.selects RX6 yX6_tableOf yX6_tableOf, Cond.code yX6_tableOf cX6_tableOf 2 (some (.object "ObjectMapper$Table")), Cond.fieldLink RX6 10 "ObjectMapper" "authorTable" "LObjectMapper$Table;", Cond.fieldLink RX6 16 "ObjectMapper" "bookTable" "LObjectMapper$Table;", Cond.methodLink RX6 155 yX5_countThere, Cond.instanceMethod yX5_countThere, Cond.selects RX5 yX5_countThere yX5_countThere, Cond.initialized RX5, Cond.code yX5_countThere cX5_countThere 3 (some .int), Cond.fieldLink RX5 10 "ObjectMapper$Table" "places" "Ljava/util/ArrayList;", Cond.fieldLink RX5 39 "ObjectMapper$Row" "there" "Z"]
def wsL_rows_r2 : List Cond := [Cond.methodLink RX5 23 yJx4a65c_size_8abf5, Cond.instanceMethod yJx4a65c_size_8abf5, Cond.selects RJx4a65c yJx4a65c_size_8abf5 yJx4a65c_size_8abf5, Cond.initialized RJx4a65c, Cond.code yJx4a65c_size_8abf5 cJx4a65c_size_8abf5 1 (some .int), Cond.fieldLink RJx4a65c 48 "java/util/ArrayList" "size" "I", Cond.methodLink RX5 35 yX5_rowAt, Cond.instanceMethod yX5_rowAt, Cond.selects RX5 yX5_rowAt yX5_rowAt, Cond.code yX5_rowAt cX5_rowAt 2 (some (.object "ObjectMapper$Row")), Cond.fieldLink RX5 19 "ObjectMapper$Table" "noRow" "LObjectMapper$Row;", Cond.classLink RX5 16 "ObjectMapper$Row", Cond.methodLink RX5 31 yJx4a65c_get_915e3, Cond.instanceMethod yJx4a65c_get_915e3, Cond.selects RJx4a65c yJx4a65c_get_915e3 yJx4a65c_get_915e3, Cond.code yJx4a65c_get_915e3 cJx4a65c_get_915e3 2 (some (.object "java/lang/Object")), Cond.methodLink RJx4a65c 118 yJ15_checkIndex_7cf53, Cond.static yJ15_checkIndex_7cf53, Cond.initialized RJ15, Cond.code yJ15_checkIndex_7cf53 cJ15_checkIndex_7cf53 2 (some .int), Cond.methodLink RJ15 105 yJ3_checkIndex_8e157, Cond.static yJ3_checkIndex_8e157, Cond.initialized RJ3, Cond.code yJ3_checkIndex_8e157 cJ3_checkIndex_8e157 3 (some .int)]
def wsL_rows_r3 : List Cond := [Cond.methodLink RJx4a65c 123 yJx4a65c_elementData_915e3, Cond.instanceMethod yJx4a65c_elementData_915e3, Cond.selects RJx4a65c yJx4a65c_elementData_915e3 yJx4a65c_elementData_915e3, Cond.code yJx4a65c_elementData_915e3 cJx4a65c_elementData_915e3 2 (some (.object "java/lang/Object")), Cond.fieldLink RJx4a65c 9 "java/util/ArrayList" "elementData" "[Ljava/lang/Object;"]
def wsL_rows : List Cond := .codeWith yL_rows cL_rows 4 (some .int) [(0, 9, 12, 15)] :: ((wsL_rows_r1 ++ (wsL_rows_r2 ++ wsL_rows_r3)) ++ wsX60 ++ wsX50 ++ wsX30 ++ wsJx4a65c0 ++ (vx_atS RX6 102 "java/lang/IllegalArgumentException" ["java/lang/RuntimeException", "java/lang/Exception"]).filter goodWord)
def wsL_rowName_r1 : List Cond := [Cond.classLink RL 15 "java/lang/IllegalArgumentException", Cond.classLink RL 13 "java/lang/IndexOutOfBoundsException", Cond.methodLink RL 62 yX6_rowName, Cond.instanceMethod yX6_rowName, Cond.selects RX6 yX6_rowName yX6_rowName, Cond.initialized RX6, Cond.code yX6_rowName cX6_rowName 3 (some .int), Cond.fieldLink RX6 163 "ObjectMapper$Row" "name" "I", Cond.methodLink RX6 159 yX6_checkedRow, Cond.instanceMethod yX6_checkedRow, Cond.selects RX6 yX6_checkedRow yX6_checkedRow, Cond.code yX6_checkedRow cX6_checkedRow 4 (some (.object "ObjectMapper$Row")), Cond.classLink RX6 177 "java/lang/IndexOutOfBoundsException", Cond.initialized "java/lang/IndexOutOfBoundsException", Cond.fieldLink RX6 64 "ObjectMapper$Row" "there" "Z", Cond.methodLink RX6 49 yX6_checkKind, Cond.static yX6_checkKind, Cond.code yX6_checkKind cX6_checkKind 1 none, Cond.classLink RX6 98 "java/lang/IllegalArgumentException", Cond.initialized "java/lang/IllegalArgumentException", Cond.methodLink RX6 52 yX6_tableOf, Cond.instanceMethod yX6_tableOf, Cond.selects RX6 yX6_tableOf yX6_tableOf, Cond.code yX6_tableOf cX6_tableOf 2 (some (.object "ObjectMapper$Table"))]
def wsL_rowName_r2 : List Cond := [Cond.fieldLink RX6 10 "ObjectMapper" "authorTable" "LObjectMapper$Table;", Cond.fieldLink RX6 16 "ObjectMapper" "bookTable" "LObjectMapper$Table;", Cond.methodLink RX6 56 yX5_rowAt, Cond.instanceMethod yX5_rowAt, Cond.selects RX5 yX5_rowAt yX5_rowAt, Cond.initialized RX5, Cond.code yX5_rowAt cX5_rowAt 2 (some (.object "ObjectMapper$Row")), Cond.fieldLink RX5 10 "ObjectMapper$Table" "places" "Ljava/util/ArrayList;", Cond.fieldLink RX5 19 "ObjectMapper$Table" "noRow" "LObjectMapper$Row;", Cond.classLink RX5 16 "ObjectMapper$Row", Cond.methodLink RX5 23 yJx4a65c_size_8abf5, Cond.instanceMethod yJx4a65c_size_8abf5, Cond.selects RJx4a65c yJx4a65c_size_8abf5 yJx4a65c_size_8abf5, Cond.initialized RJx4a65c, Cond.code yJx4a65c_size_8abf5 cJx4a65c_size_8abf5 1 (some .int), Cond.fieldLink RJx4a65c 48 "java/util/ArrayList" "size" "I", Cond.methodLink RX5 31 yJx4a65c_get_915e3, Cond.instanceMethod yJx4a65c_get_915e3, Cond.selects RJx4a65c yJx4a65c_get_915e3 yJx4a65c_get_915e3, Cond.code yJx4a65c_get_915e3 cJx4a65c_get_915e3 2 (some (.object "java/lang/Object")), Cond.methodLink RJx4a65c 118 yJ15_checkIndex_7cf53, Cond.static yJ15_checkIndex_7cf53, Cond.initialized RJ15, Cond.code yJ15_checkIndex_7cf53 cJ15_checkIndex_7cf53 2 (some .int)]
def wsL_rowName_r3 : List Cond := [Cond.methodLink RJ15 105 yJ3_checkIndex_8e157, Cond.static yJ3_checkIndex_8e157, Cond.initialized RJ3, Cond.code yJ3_checkIndex_8e157 cJ3_checkIndex_8e157 3 (some .int), Cond.methodLink RJx4a65c 123 yJx4a65c_elementData_915e3, Cond.instanceMethod yJx4a65c_elementData_915e3, Cond.selects RJx4a65c yJx4a65c_elementData_915e3 yJx4a65c_elementData_915e3, Cond.code yJx4a65c_elementData_915e3 cJx4a65c_elementData_915e3 2 (some (.object "java/lang/Object")), Cond.fieldLink RJx4a65c 9 "java/util/ArrayList" "elementData" "[Ljava/lang/Object;"]
def wsL_rowName : List Cond := .codeWith yL_rowName cL_rowName 5 (some .int) [(0, 10, 13, 15), (0, 10, 17, 13)] :: ((wsL_rowName_r1 ++ (wsL_rowName_r2 ++ wsL_rowName_r3)) ++ wsX30 ++ wsX60 ++ wsX50 ++ wsJx4a65c0 ++ (vx_atS RX6 181 "java/lang/IndexOutOfBoundsException" ["java/lang/RuntimeException", "java/lang/Exception"]).filter goodWord ++ (vx_atS RX6 102 "java/lang/IllegalArgumentException" ["java/lang/RuntimeException", "java/lang/Exception"]).filter goodWord)
def wsL_rowReference_r1 : List Cond := [Cond.classLink RL 15 "java/lang/IllegalArgumentException", Cond.classLink RL 13 "java/lang/IndexOutOfBoundsException", Cond.methodLink RL 65 yX6_rowReference, Cond.instanceMethod yX6_rowReference, Cond.selects RX6 yX6_rowReference yX6_rowReference, Cond.initialized RX6, Cond.code yX6_rowReference cX6_rowReference 3 (some .int), Cond.fieldLink RX6 164 "ObjectMapper$Row" "reference" "I", Cond.methodLink RX6 159 yX6_checkedRow, Cond.instanceMethod yX6_checkedRow, Cond.selects RX6 yX6_checkedRow yX6_checkedRow, Cond.code yX6_checkedRow cX6_checkedRow 4 (some (.object "ObjectMapper$Row")), Cond.classLink RX6 177 "java/lang/IndexOutOfBoundsException", Cond.initialized "java/lang/IndexOutOfBoundsException", Cond.fieldLink RX6 64 "ObjectMapper$Row" "there" "Z", Cond.methodLink RX6 49 yX6_checkKind, Cond.static yX6_checkKind, Cond.code yX6_checkKind cX6_checkKind 1 none, Cond.classLink RX6 98 "java/lang/IllegalArgumentException", Cond.initialized "java/lang/IllegalArgumentException", Cond.methodLink RX6 52 yX6_tableOf, Cond.instanceMethod yX6_tableOf, Cond.selects RX6 yX6_tableOf yX6_tableOf, Cond.code yX6_tableOf cX6_tableOf 2 (some (.object "ObjectMapper$Table"))]
def wsL_rowReference_r2 : List Cond := [Cond.fieldLink RX6 10 "ObjectMapper" "authorTable" "LObjectMapper$Table;", Cond.fieldLink RX6 16 "ObjectMapper" "bookTable" "LObjectMapper$Table;", Cond.methodLink RX6 56 yX5_rowAt, Cond.instanceMethod yX5_rowAt, Cond.selects RX5 yX5_rowAt yX5_rowAt, Cond.initialized RX5, Cond.code yX5_rowAt cX5_rowAt 2 (some (.object "ObjectMapper$Row")), Cond.fieldLink RX5 10 "ObjectMapper$Table" "places" "Ljava/util/ArrayList;", Cond.fieldLink RX5 19 "ObjectMapper$Table" "noRow" "LObjectMapper$Row;", Cond.classLink RX5 16 "ObjectMapper$Row", Cond.methodLink RX5 23 yJx4a65c_size_8abf5, Cond.instanceMethod yJx4a65c_size_8abf5, Cond.selects RJx4a65c yJx4a65c_size_8abf5 yJx4a65c_size_8abf5, Cond.initialized RJx4a65c, Cond.code yJx4a65c_size_8abf5 cJx4a65c_size_8abf5 1 (some .int), Cond.fieldLink RJx4a65c 48 "java/util/ArrayList" "size" "I", Cond.methodLink RX5 31 yJx4a65c_get_915e3, Cond.instanceMethod yJx4a65c_get_915e3, Cond.selects RJx4a65c yJx4a65c_get_915e3 yJx4a65c_get_915e3, Cond.code yJx4a65c_get_915e3 cJx4a65c_get_915e3 2 (some (.object "java/lang/Object")), Cond.methodLink RJx4a65c 118 yJ15_checkIndex_7cf53, Cond.static yJ15_checkIndex_7cf53, Cond.initialized RJ15, Cond.code yJ15_checkIndex_7cf53 cJ15_checkIndex_7cf53 2 (some .int)]
def wsL_rowReference_r3 : List Cond := [Cond.methodLink RJ15 105 yJ3_checkIndex_8e157, Cond.static yJ3_checkIndex_8e157, Cond.initialized RJ3, Cond.code yJ3_checkIndex_8e157 cJ3_checkIndex_8e157 3 (some .int), Cond.methodLink RJx4a65c 123 yJx4a65c_elementData_915e3, Cond.instanceMethod yJx4a65c_elementData_915e3, Cond.selects RJx4a65c yJx4a65c_elementData_915e3 yJx4a65c_elementData_915e3, Cond.code yJx4a65c_elementData_915e3 cJx4a65c_elementData_915e3 2 (some (.object "java/lang/Object")), Cond.fieldLink RJx4a65c 9 "java/util/ArrayList" "elementData" "[Ljava/lang/Object;"]
def wsL_rowReference : List Cond := .codeWith yL_rowReference cL_rowReference 5 (some .int) [(0, 10, 13, 15), (0, 10, 17, 13)] :: ((wsL_rowReference_r1 ++ (wsL_rowReference_r2 ++ wsL_rowReference_r3)) ++ wsX30 ++ wsX60 ++ wsX50 ++ wsJx4a65c0 ++ (vx_atS RX6 181 "java/lang/IndexOutOfBoundsException" ["java/lang/RuntimeException", "java/lang/Exception"]).filter goodWord ++ (vx_atS RX6 102 "java/lang/IllegalArgumentException" ["java/lang/RuntimeException", "java/lang/Exception"]).filter goodWord)
def wsL_rowVersion_r1 : List Cond := [Cond.classLink RL 15 "java/lang/IllegalArgumentException", Cond.classLink RL 13 "java/lang/IndexOutOfBoundsException", Cond.methodLink RL 68 yX6_rowVersion, Cond.instanceMethod yX6_rowVersion, Cond.selects RX6 yX6_rowVersion yX6_rowVersion, Cond.initialized RX6, Cond.code yX6_rowVersion cX6_rowVersion 3 (some .int), Cond.fieldLink RX6 165 "ObjectMapper$Row" "version" "I", Cond.methodLink RX6 159 yX6_checkedRow, Cond.instanceMethod yX6_checkedRow, Cond.selects RX6 yX6_checkedRow yX6_checkedRow, Cond.code yX6_checkedRow cX6_checkedRow 4 (some (.object "ObjectMapper$Row")), Cond.classLink RX6 177 "java/lang/IndexOutOfBoundsException", Cond.initialized "java/lang/IndexOutOfBoundsException", Cond.fieldLink RX6 64 "ObjectMapper$Row" "there" "Z", Cond.methodLink RX6 49 yX6_checkKind, Cond.static yX6_checkKind, Cond.code yX6_checkKind cX6_checkKind 1 none, Cond.classLink RX6 98 "java/lang/IllegalArgumentException", Cond.initialized "java/lang/IllegalArgumentException", Cond.methodLink RX6 52 yX6_tableOf, Cond.instanceMethod yX6_tableOf, Cond.selects RX6 yX6_tableOf yX6_tableOf, Cond.code yX6_tableOf cX6_tableOf 2 (some (.object "ObjectMapper$Table"))]
def wsL_rowVersion_r2 : List Cond := [Cond.fieldLink RX6 10 "ObjectMapper" "authorTable" "LObjectMapper$Table;", Cond.fieldLink RX6 16 "ObjectMapper" "bookTable" "LObjectMapper$Table;", Cond.methodLink RX6 56 yX5_rowAt, Cond.instanceMethod yX5_rowAt, Cond.selects RX5 yX5_rowAt yX5_rowAt, Cond.initialized RX5, Cond.code yX5_rowAt cX5_rowAt 2 (some (.object "ObjectMapper$Row")), Cond.fieldLink RX5 10 "ObjectMapper$Table" "places" "Ljava/util/ArrayList;", Cond.fieldLink RX5 19 "ObjectMapper$Table" "noRow" "LObjectMapper$Row;", Cond.classLink RX5 16 "ObjectMapper$Row", Cond.methodLink RX5 23 yJx4a65c_size_8abf5, Cond.instanceMethod yJx4a65c_size_8abf5, Cond.selects RJx4a65c yJx4a65c_size_8abf5 yJx4a65c_size_8abf5, Cond.initialized RJx4a65c, Cond.code yJx4a65c_size_8abf5 cJx4a65c_size_8abf5 1 (some .int), Cond.fieldLink RJx4a65c 48 "java/util/ArrayList" "size" "I", Cond.methodLink RX5 31 yJx4a65c_get_915e3, Cond.instanceMethod yJx4a65c_get_915e3, Cond.selects RJx4a65c yJx4a65c_get_915e3 yJx4a65c_get_915e3, Cond.code yJx4a65c_get_915e3 cJx4a65c_get_915e3 2 (some (.object "java/lang/Object")), Cond.methodLink RJx4a65c 118 yJ15_checkIndex_7cf53, Cond.static yJ15_checkIndex_7cf53, Cond.initialized RJ15, Cond.code yJ15_checkIndex_7cf53 cJ15_checkIndex_7cf53 2 (some .int)]
def wsL_rowVersion_r3 : List Cond := [Cond.methodLink RJ15 105 yJ3_checkIndex_8e157, Cond.static yJ3_checkIndex_8e157, Cond.initialized RJ3, Cond.code yJ3_checkIndex_8e157 cJ3_checkIndex_8e157 3 (some .int), Cond.methodLink RJx4a65c 123 yJx4a65c_elementData_915e3, Cond.instanceMethod yJx4a65c_elementData_915e3, Cond.selects RJx4a65c yJx4a65c_elementData_915e3 yJx4a65c_elementData_915e3, Cond.code yJx4a65c_elementData_915e3 cJx4a65c_elementData_915e3 2 (some (.object "java/lang/Object")), Cond.fieldLink RJx4a65c 9 "java/util/ArrayList" "elementData" "[Ljava/lang/Object;"]
def wsL_rowVersion : List Cond := .codeWith yL_rowVersion cL_rowVersion 5 (some .int) [(0, 10, 13, 15), (0, 10, 17, 13)] :: ((wsL_rowVersion_r1 ++ (wsL_rowVersion_r2 ++ wsL_rowVersion_r3)) ++ wsX30 ++ wsX60 ++ wsX50 ++ wsJx4a65c0 ++ (vx_atS RX6 181 "java/lang/IndexOutOfBoundsException" ["java/lang/RuntimeException", "java/lang/Exception"]).filter goodWord ++ (vx_atS RX6 102 "java/lang/IllegalArgumentException" ["java/lang/RuntimeException", "java/lang/Exception"]).filter goodWord)
def wsL_write : List Cond := .codeWith yL_write cL_write 4 (some .int) [(0, 9, 12, 13)] :: ([.classLink RL 13 "java/lang/IndexOutOfBoundsException", .methodLink RL 71 yX6_write, .instanceMethod yX6_write, .selects RX6 yX6_write yX6_write, .initialized RX6, .code yX6_write cX6_write 2 (some .int), .fieldLink RX6 22 "ObjectMapper" "journal" "LObjectMapper$Journal;", .methodLink RX6 168 yX6_checkWrite, .instanceMethod yX6_checkWrite, .selects RX6 yX6_checkWrite yX6_checkWrite, .code yX6_checkWrite cX6_checkWrite 2 none, .classLink RX6 177 "java/lang/IndexOutOfBoundsException", .initialized "java/lang/IndexOutOfBoundsException", .fieldLink RX6 146 "ObjectMapper$Journal" "size" "I", .methodLink RX6 171 yX2_actionAt, .instanceMethod yX2_actionAt, .selects RX2 yX2_actionAt yX2_actionAt, .initialized RX2, .code yX2_actionAt cX2_actionAt 2 (some .int), .fieldLink RX2 11 "ObjectMapper$Journal" "actions" "[I"] ++ wsX60 ++ wsX20 ++ (vx_atS RX6 181 "java/lang/IndexOutOfBoundsException" ["java/lang/RuntimeException", "java/lang/Exception"]).filter goodWord)
def wsL_written : List Cond := .codeWith yL_written cL_written 4 (some .int) [(0, 9, 12, 13)] :: ([.classLink RL 13 "java/lang/IndexOutOfBoundsException", .methodLink RL 74 yX6_written, .instanceMethod yX6_written, .selects RX6 yX6_written yX6_written, .initialized RX6, .code yX6_written cX6_written 2 (some .int), .fieldLink RX6 22 "ObjectMapper" "journal" "LObjectMapper$Journal;", .methodLink RX6 168 yX6_checkWrite, .instanceMethod yX6_checkWrite, .selects RX6 yX6_checkWrite yX6_checkWrite, .code yX6_checkWrite cX6_checkWrite 2 none, .classLink RX6 177 "java/lang/IndexOutOfBoundsException", .initialized "java/lang/IndexOutOfBoundsException", .fieldLink RX6 146 "ObjectMapper$Journal" "size" "I", .methodLink RX6 174 yX2_rowNumberAt, .instanceMethod yX2_rowNumberAt, .selects RX2 yX2_rowNumberAt yX2_rowNumberAt, .initialized RX2, .code yX2_rowNumberAt cX2_rowNumberAt 2 (some .int), .fieldLink RX2 15 "ObjectMapper$Journal" "rowNumbers" "[I"] ++ wsX60 ++ wsX20 ++ (vx_atS RX6 181 "java/lang/IndexOutOfBoundsException" ["java/lang/RuntimeException", "java/lang/Exception"]).filter goodWord)
def wsL_law0_r1 : List Cond := [Cond.classLink RL 8 RX6, Cond.instantiable RX6 4, Cond.initialized RX6, Cond.classLink RL 78 RX7, Cond.instantiable RX7 16, Cond.initialized RX7, Cond.arrayClass .long, Cond.methodLink RL 77 yX6_init, Cond.instanceMethod yX6_init, Cond.code yX6_init cX6_init 2 none, Cond.methodLink RX6 1 objectInit, Cond.instanceMethod objectInit, Cond.code objectInit ⟨#[0xb1]⟩ 1 none, Cond.classLink RX6 7 RX5, Cond.instantiable RX5 2, Cond.initialized RX5, Cond.fieldLink RX6 10 "ObjectMapper" "authorTable" "LObjectMapper$Table;", Cond.fieldLink RX6 16 "ObjectMapper" "bookTable" "LObjectMapper$Table;", Cond.classLink RX6 19 RX2, Cond.instantiable RX2 3, Cond.initialized RX2, Cond.fieldLink RX6 22 "ObjectMapper" "journal" "LObjectMapper$Journal;", Cond.classLink RX6 26 RX4, Cond.fieldLink RX6 28 "ObjectMapper" "sessions" "[LObjectMapper$Session;"]
def wsL_law0_r2 : List Cond := [Cond.instantiable RX4 3, Cond.initialized RX4, Cond.instanceMethod yX5_init, Cond.code yX5_init cX5_init 1 none, Cond.methodLink RX5 1 objectInit, Cond.classLink RX5 7 RJx4a65c, Cond.instantiable RJx4a65c 3, Cond.initialized RJx4a65c, Cond.fieldLink RX5 10 "ObjectMapper$Table" "places" "Ljava/util/ArrayList;", Cond.classLink RX5 16 RX3, Cond.instantiable RX3 4, Cond.initialized RX3, Cond.fieldLink RX5 19 "ObjectMapper$Table" "noRow" "LObjectMapper$Row;", Cond.methodLink RX5 9 yJx4a65c_init_da8c8, Cond.instanceMethod yJx4a65c_init_da8c8, Cond.code yJx4a65c_init_da8c8 cJx4a65c_init_da8c8 1 none, Cond.fieldLink RJx4a65c 39 "java/util/ArrayList" "DEFAULTCAPACITY_EMPTY_ELEMENTDATA" "[Ljava/lang/Object;", Cond.fieldLink RJx4a65c 9 "java/util/ArrayList" "elementData" "[Ljava/lang/Object;", Cond.methodLink RJx4a65c 1 yJxc12de_init_da8c8, Cond.instanceMethod yJxc12de_init_da8c8, Cond.initialized RJxc12de, Cond.code yJxc12de_init_da8c8 cJxc12de_init_da8c8 1 none, Cond.fieldLink RJxc12de 7 "java/util/AbstractList" "modCount" "I", Cond.methodLink RJxc12de 1 yJxa1e45_init_da8c8]
def wsL_law0_r3 : List Cond := [Cond.instanceMethod yJxa1e45_init_da8c8, Cond.initialized RJxa1e45, Cond.code yJxa1e45_init_da8c8 cJxa1e45_init_da8c8 1 none, Cond.methodLink RJxa1e45 1 objectInit, Cond.instanceMethod yX3_init, Cond.code yX3_init cX3_init 1 none, Cond.methodLink RX3 3 objectInit, Cond.fieldLink RX3 9 "ObjectMapper$Row" "reference" "I", Cond.instanceMethod yX2_init, Cond.code yX2_init cX2_init 1 none, Cond.methodLink RX2 3 objectInit, Cond.arrayClass .int, Cond.fieldLink RX2 11 "ObjectMapper$Journal" "actions" "[I", Cond.fieldLink RX2 15 "ObjectMapper$Journal" "rowNumbers" "[I", Cond.instanceMethod yX4_init, Cond.code yX4_init cX4_init 1 none, Cond.methodLink RX4 3 objectInit, Cond.classLink RX4 9 RJx4a65c, Cond.fieldLink RX4 12 "ObjectMapper$Session" "authorPlaces" "Ljava/util/ArrayList;", Cond.fieldLink RX4 18 "ObjectMapper$Session" "bookPlaces" "Ljava/util/ArrayList;", Cond.classLink RX4 21 RX0, Cond.instantiable RX0 8, Cond.initialized RX0, Cond.fieldLink RX4 24 "ObjectMapper$Session" "nobody" "LObjectMapper$Entity;"]
def wsL_law0_r4 : List Cond := [Cond.methodLink RX4 11 yJx4a65c_init_da8c8, Cond.instanceMethod yX0_init, Cond.code yX0_init cX0_init 1 none, Cond.methodLink RX0 3 objectInit, Cond.fieldLink RX0 9 "ObjectMapper$Entity" "reference" "I", Cond.methodLink RL 80 yX7_init, Cond.instanceMethod yX7_init, Cond.code yX7_init cX7_init 1 none, Cond.methodLink RX7 1 objectInit, Cond.fieldLink RX7 7 "ObjectMapperModel" "keys" "[I", Cond.arrayClass .boolean, Cond.fieldLink RX7 13 "ObjectMapperModel" "isRow" "[Z", Cond.fieldLink RX7 17 "ObjectMapperModel" "rowNames" "[I", Cond.fieldLink RX7 20 "ObjectMapperModel" "rowReferences" "[I", Cond.fieldLink RX7 23 "ObjectMapperModel" "rowVersions" "[I", Cond.fieldLink RX7 26 "ObjectMapperModel" "willBe" "[Z", Cond.fieldLink RX7 29 "ObjectMapperModel" "states" "[I", Cond.fieldLink RX7 32 "ObjectMapperModel" "isRemoved" "[Z", Cond.fieldLink RX7 35 "ObjectMapperModel" "names" "[I", Cond.fieldLink RX7 38 "ObjectMapperModel" "references" "[I", Cond.fieldLink RX7 41 "ObjectMapperModel" "oldNames" "[I", Cond.fieldLink RX7 44 "ObjectMapperModel" "oldReferences" "[I", Cond.fieldLink RX7 47 "ObjectMapperModel" "oldVersions" "[I", Cond.fieldLink RX7 50 "ObjectMapperModel" "written" "[I"]
def wsL_law0_r5 : List Cond := [Cond.methodLink RL 81 yL_makeAuthor, Cond.static yL_makeAuthor, Cond.initialized RL, Cond.codeWith yL_makeAuthor cL_makeAuthor 5 (some .int) [(0, 10, 13, 13), (0, 10, 17, 15)], Cond.classLink RL 13 "java/lang/IndexOutOfBoundsException", Cond.classLink RL 15 "java/lang/IllegalArgumentException", Cond.methodLink RL 7 yX6_makeAuthor, Cond.instanceMethod yX6_makeAuthor, Cond.selects RX6 yX6_makeAuthor yX6_makeAuthor, Cond.code yX6_makeAuthor cX6_makeAuthor 4 (some .int), Cond.methodLink RX6 33 yX6_sessionAt, Cond.instanceMethod yX6_sessionAt, Cond.selects RX6 yX6_sessionAt yX6_sessionAt, Cond.code yX6_sessionAt cX6_sessionAt 2 (some (.object "ObjectMapper$Session")), Cond.classLink RX6 177 "java/lang/IndexOutOfBoundsException", Cond.initialized "java/lang/IndexOutOfBoundsException", Cond.methodLink RX6 37 yX6_checkRangeOfName, Cond.static yX6_checkRangeOfName, Cond.code yX6_checkRangeOfName cX6_checkRangeOfName 1 none, Cond.classLink RX6 98 "java/lang/IllegalArgumentException", Cond.initialized "java/lang/IllegalArgumentException", Cond.methodLink RX6 41 yX6_makeEntity, Cond.instanceMethod yX6_makeEntity, Cond.selects RX6 yX6_makeEntity yX6_makeEntity]
def wsL_law0_r6 : List Cond := [Cond.code yX6_makeEntity cX6_makeEntity 7 (some .int), Cond.methodLink RX6 52 yX6_tableOf, Cond.instanceMethod yX6_tableOf, Cond.selects RX6 yX6_tableOf yX6_tableOf, Cond.code yX6_tableOf cX6_tableOf 2 (some (.object "ObjectMapper$Table")), Cond.methodLink RX6 192 yX5_size, Cond.instanceMethod yX5_size, Cond.selects RX5 yX5_size yX5_size, Cond.code yX5_size cX5_size 1 (some .int), Cond.methodLink RX5 23 yJx4a65c_size_8abf5, Cond.instanceMethod yJx4a65c_size_8abf5, Cond.selects RJx4a65c yJx4a65c_size_8abf5 yJx4a65c_size_8abf5, Cond.code yJx4a65c_size_8abf5 cJx4a65c_size_8abf5 1 (some .int), Cond.fieldLink RJx4a65c 48 "java/util/ArrayList" "size" "I", Cond.methodLink RX6 194 yX5_addPlace, Cond.instanceMethod yX5_addPlace, Cond.selects RX5 yX5_addPlace yX5_addPlace, Cond.code yX5_addPlace cX5_addPlace 1 none, Cond.methodLink RX5 27 yJx4a65c_add_9ea2d, Cond.instanceMethod yJx4a65c_add_9ea2d, Cond.selects RJx4a65c yJx4a65c_add_9ea2d yJx4a65c_add_9ea2d, Cond.code yJx4a65c_add_9ea2d cJx4a65c_add_9ea2d 2 (some .boolean), Cond.fieldLink RJx4a65c 63 "java/util/ArrayList" "modCount" "I", Cond.sameField "java/util/ArrayList" "java/util/AbstractList" "modCount" "I"]
def wsL_law0_r7 : List Cond := [Cond.methodLink RJx4a65c 131 yJx4a65c_add_72be8, Cond.instanceMethod yJx4a65c_add_72be8, Cond.selects RJx4a65c yJx4a65c_add_72be8 yJx4a65c_add_72be8, Cond.code yJx4a65c_add_72be8 cJx4a65c_add_72be8 4 none, Cond.methodLink RJx4a65c 129 yJx4a65c_grow_d5877, Cond.instanceMethod yJx4a65c_grow_d5877, Cond.selects RJx4a65c yJx4a65c_grow_d5877 yJx4a65c_grow_d5877, Cond.code yJx4a65c_grow_d5877 cJx4a65c_grow_d5877 1 (some (.array (.object "java/lang/Object"))), Cond.methodLink RJx4a65c 69 yJx4a65c_grow_92f84, Cond.instanceMethod yJx4a65c_grow_92f84, Cond.selects RJx4a65c yJx4a65c_grow_92f84 yJx4a65c_grow_92f84, Cond.code yJx4a65c_grow_92f84 cJx4a65c_grow_92f84 4 (some (.array (.object "java/lang/Object"))), Cond.methodLink RJx4a65c 79 Lib.Math.max.name, Cond.static Lib.Math.max.name, Cond.initialized "java/lang/Math", Cond.code Lib.Math.max.name Lib.Math.max.code 2 (some .int), Cond.classLink RJx4a65c 7 "java/lang/Object", Cond.methodLink RJx4a65c 73 yJ8_newLength_cabcc, Cond.static yJ8_newLength_cabcc, Cond.initialized RJ8, Cond.code yJ8_newLength_cabcc cJ8_newLength_cabcc 4 (some .int), Cond.methodLink RJ8 194 Lib.Math.max.name, Cond.constant RJ8 200 (2147483639), Cond.methodLink RJ8 201 yJ8_hugeLength_7cf53]
def wsL_law0_r8 : List Cond := [Cond.static yJ8_hugeLength_7cf53, Cond.code yJ8_hugeLength_7cf53 cJ8_hugeLength_7cf53 3 (some .int), Cond.methodLink RJx4a65c 66 yJ7_copyOf_1904c, Cond.static yJ7_copyOf_1904c, Cond.initialized RJ7, Cond.code yJ7_copyOf_1904c cJ7_copyOf_1904c 2 (some (.array (.object "java/lang/Object"))), Cond.methodLink RJ7 86 ⟨"java/lang/Object", "getClass", "()Ljava/lang/Class;"⟩, Cond.selects "[Ljava/lang/Object;" ⟨"java/lang/Object", "getClass", "()Ljava/lang/Class;"⟩ ⟨"java/lang/Object", "getClass", "()Ljava/lang/Class;"⟩, Cond.instanceMethod ⟨"java/lang/Object", "getClass", "()Ljava/lang/Class;"⟩, Cond.native ⟨"java/lang/Object", "getClass", "()Ljava/lang/Class;"⟩, Cond.methodLink RJ7 300 yJ7_copyOf_6403c, Cond.static yJ7_copyOf_6403c, Cond.code yJ7_copyOf_6403c cJ7_copyOf_6403c 4 (some (.array (.object "java/lang/Object"))), Cond.classLink RJ7 110 "[Ljava/lang/Object;", Cond.classLink RJ7 2 "java/lang/Object", Cond.methodLink RJ7 304 Lib.Math.min.name, Cond.static Lib.Math.min.name, Cond.code Lib.Math.min.name Lib.Math.min.code 2 (some .int), Cond.methodLink RJ7 150 arraycopyName, Cond.native arraycopyName, Cond.static arraycopyName, Cond.initialized "java/lang/System", Cond.methodLink RX6 197 yX4_addPlace, Cond.instanceMethod yX4_addPlace]
def wsL_law0_r9 : List Cond := [Cond.selects RX4 yX4_addPlace yX4_addPlace, Cond.code yX4_addPlace cX4_addPlace 2 none, Cond.methodLink RX4 28 yX4_listOf, Cond.instanceMethod yX4_listOf, Cond.selects RX4 yX4_listOf yX4_listOf, Cond.code yX4_listOf cX4_listOf 2 (some (.object "java/util/ArrayList")), Cond.methodLink RX4 36 yJx4a65c_add_9ea2d, Cond.methodLink RX6 60 yX4_entityAt, Cond.instanceMethod yX4_entityAt, Cond.selects RX4 yX4_entityAt yX4_entityAt, Cond.code yX4_entityAt cX4_entityAt 4 (some (.object "ObjectMapper$Entity")), Cond.classLink RX4 21 "ObjectMapper$Entity", Cond.methodLink RX4 32 yJx4a65c_size_8abf5, Cond.methodLink RX4 40 yJx4a65c_get_915e3, Cond.instanceMethod yJx4a65c_get_915e3, Cond.selects RJx4a65c yJx4a65c_get_915e3 yJx4a65c_get_915e3, Cond.code yJx4a65c_get_915e3 cJx4a65c_get_915e3 2 (some (.object "java/lang/Object")), Cond.methodLink RJx4a65c 118 yJ15_checkIndex_7cf53, Cond.static yJ15_checkIndex_7cf53, Cond.initialized RJ15, Cond.code yJ15_checkIndex_7cf53 cJ15_checkIndex_7cf53 2 (some .int), Cond.methodLink RJ15 105 yJ3_checkIndex_8e157, Cond.static yJ3_checkIndex_8e157, Cond.initialized RJ3]
def wsL_law0_r10 : List Cond := [Cond.code yJ3_checkIndex_8e157 cJ3_checkIndex_8e157 3 (some .int), Cond.methodLink RJx4a65c 123 yJx4a65c_elementData_915e3, Cond.instanceMethod yJx4a65c_elementData_915e3, Cond.selects RJx4a65c yJx4a65c_elementData_915e3 yJx4a65c_elementData_915e3, Cond.code yJx4a65c_elementData_915e3 cJx4a65c_elementData_915e3 2 (some (.object "java/lang/Object")), Cond.methodLink RX6 199 yX0_make, Cond.instanceMethod yX0_make, Cond.selects RX0 yX0_make yX0_make, Cond.code yX0_make cX0_make 3 none, Cond.fieldLink RX0 15 "ObjectMapper$Entity" "inSession" "Z", Cond.fieldLink RX0 19 "ObjectMapper$Entity" "name" "I", Cond.methodLink RL 86 yX7_makeAuthor, Cond.instanceMethod yX7_makeAuthor, Cond.selects RX7 yX7_makeAuthor yX7_makeAuthor, Cond.code yX7_makeAuthor cX7_makeAuthor 3 (some .int), Cond.methodLink RX7 76 yX7_isSession, Cond.static yX7_isSession, Cond.code yX7_isSession cX7_isSession 1 (some .boolean), Cond.methodLink RX7 80 yX7_isName, Cond.static yX7_isName, Cond.code yX7_isName cX7_isName 1 (some .boolean), Cond.methodLink RX7 83 yX7_holds, Cond.instanceMethod yX7_holds, Cond.selects RX7 yX7_holds yX7_holds]
def wsL_law0_r11 : List Cond := [Cond.code yX7_holds cX7_holds 2 (some .boolean), Cond.fieldLink RX7 53 "ObjectMapperModel" "thrown" "I", Cond.methodLink RX7 86 yX7_makes, Cond.instanceMethod yX7_makes, Cond.selects RX7 yX7_makes yX7_makes, Cond.code yX7_makes cX7_makes 7 (some .int), Cond.methodLink RX7 65 yX7_at, Cond.static yX7_at, Cond.code yX7_at cX7_at 3 (some .int), Cond.methodLink RL 87 yX7_thrown, Cond.instanceMethod yX7_thrown, Cond.selects RX7 yX7_thrown yX7_thrown, Cond.code yX7_thrown cX7_thrown 1 (some .int), Cond.methodLink RL 91 yL_makeBook, Cond.static yL_makeBook, Cond.codeWith yL_makeBook cL_makeBook 6 (some .int) [(0, 12, 15, 13), (0, 12, 19, 15), (0, 12, 23, 21)], Cond.classLink RL 21 "java/lang/IllegalStateException", Cond.methodLink RL 17 yX6_makeBook, Cond.instanceMethod yX6_makeBook, Cond.selects RX6 yX6_makeBook yX6_makeBook, Cond.code yX6_makeBook cX6_makeBook 5 (some .int), Cond.methodLink RX6 45 yX6_checkLive, Cond.static yX6_checkLive, Cond.code yX6_checkLive cX6_checkLive 3 none]
def wsL_law0_r12 : List Cond := [Cond.classLink RX6 128 "java/lang/IllegalStateException", Cond.initialized "java/lang/IllegalStateException", Cond.methodLink RX6 79 yX0_isLive, Cond.instanceMethod yX0_isLive, Cond.selects RX0 yX0_isLive yX0_isLive, Cond.code yX0_isLive cX0_isLive 1 (some .boolean), Cond.fieldLink RX0 49 "ObjectMapper$Entity" "struckOut" "Z", Cond.methodLink RL 94 yX7_makeBook, Cond.instanceMethod yX7_makeBook, Cond.selects RX7 yX7_makeBook yX7_makeBook, Cond.code yX7_makeBook cX7_makeBook 5 (some .int), Cond.methodLink RX7 90 yX7_knows, Cond.instanceMethod yX7_knows, Cond.selects RX7 yX7_knows yX7_knows, Cond.code yX7_knows cX7_knows 4 (some .boolean), Cond.methodLink RX7 57 yX7_isKey, Cond.instanceMethod yX7_isKey, Cond.selects RX7 yX7_isKey yX7_isKey, Cond.code yX7_isKey cX7_isKey 3 (some .boolean), Cond.methodLink RL 95 yL_find, Cond.static yL_find, Cond.codeWith yL_find cL_find 6 (some .int) [(0, 19, 22, 13), (0, 19, 26, 15)], Cond.methodLink RL 23 yX6_find, Cond.instanceMethod yX6_find]
def wsL_law0_r13 : List Cond := [Cond.selects RX6 yX6_find yX6_find, Cond.code yX6_find cX6_find 7 (some .boolean), Cond.fieldLink RX6 64 "ObjectMapper$Row" "there" "Z", Cond.fieldLink RX6 70 "ObjectMapper$Entity" "inSession" "Z", Cond.methodLink RX6 49 yX6_checkKind, Cond.static yX6_checkKind, Cond.code yX6_checkKind cX6_checkKind 1 none, Cond.methodLink RX6 56 yX5_rowAt, Cond.instanceMethod yX5_rowAt, Cond.selects RX5 yX5_rowAt yX5_rowAt, Cond.code yX5_rowAt cX5_rowAt 2 (some (.object "ObjectMapper$Row")), Cond.classLink RX5 16 "ObjectMapper$Row", Cond.methodLink RX5 31 yJx4a65c_get_915e3, Cond.methodLink RX6 75 yX0_load, Cond.instanceMethod yX0_load, Cond.selects RX0 yX0_load yX0_load, Cond.code yX0_load cX0_load 2 none, Cond.fieldLink RX0 22 "ObjectMapper$Row" "name" "I", Cond.fieldLink RX0 25 "ObjectMapper$Row" "reference" "I", Cond.methodLink RX0 26 yX0_make, Cond.methodLink RX0 30 yX0_takeSnapshot, Cond.instanceMethod yX0_takeSnapshot, Cond.selects RX0 yX0_takeSnapshot yX0_takeSnapshot, Cond.code yX0_takeSnapshot cX0_takeSnapshot 2 none]
def wsL_law0_r14 : List Cond := [Cond.fieldLink RX0 34 "ObjectMapper$Entity" "hasSnapshot" "Z", Cond.fieldLink RX0 37 "ObjectMapper$Entity" "snapshotName" "I", Cond.fieldLink RX0 40 "ObjectMapper$Entity" "snapshotReference" "I", Cond.fieldLink RX0 43 "ObjectMapper$Row" "version" "I", Cond.fieldLink RX0 46 "ObjectMapper$Entity" "snapshotVersion" "I", Cond.methodLink RL 97 yX7_find, Cond.instanceMethod yX7_find, Cond.selects RX7 yX7_find yX7_find, Cond.code yX7_find cX7_find 4 (some .boolean), Cond.methodLink RX7 94 yX7_isKind, Cond.static yX7_isKind, Cond.code yX7_isKind cX7_isKind 1 (some .boolean), Cond.methodLink RX7 69 yX7_hasRow, Cond.instanceMethod yX7_hasRow, Cond.selects RX7 yX7_hasRow yX7_hasRow, Cond.code yX7_hasRow cX7_hasRow 3 (some .boolean), Cond.methodLink RX7 61 yX7_row, Cond.static yX7_row, Cond.code yX7_row cX7_row 2 (some .int), Cond.methodLink RX7 72 yX7_takes, Cond.instanceMethod yX7_takes, Cond.selects RX7 yX7_takes yX7_takes, Cond.code yX7_takes cX7_takes 6 none, Cond.methodLink RL 98 yL_books]
def wsL_law0_r15 : List Cond := [Cond.static yL_books, Cond.codeWith yL_books cL_books 5 (some .int) [(0, 10, 13, 13), (0, 10, 17, 21)], Cond.methodLink RL 27 yX6_books, Cond.instanceMethod yX6_books, Cond.selects RX6 yX6_books yX6_books, Cond.code yX6_books cX6_books 6 (some .int), Cond.methodLink RX6 83 yX6_loadReferring, Cond.instanceMethod yX6_loadReferring, Cond.selects RX6 yX6_loadReferring yX6_loadReferring, Cond.code yX6_loadReferring cX6_loadReferring 8 none, Cond.fieldLink RX6 164 "ObjectMapper$Row" "reference" "I", Cond.methodLink RX6 86 yX4_sizeOf, Cond.instanceMethod yX4_sizeOf, Cond.selects RX4 yX4_sizeOf yX4_sizeOf, Cond.code yX4_sizeOf cX4_sizeOf 2 (some .int), Cond.methodLink RX6 90 yX0_isLiveAndRefersTo, Cond.instanceMethod yX0_isLiveAndRefersTo, Cond.selects RX0 yX0_isLiveAndRefersTo yX0_isLiveAndRefersTo, Cond.code yX0_isLiveAndRefersTo cX0_isLiveAndRefersTo 2 (some .boolean), Cond.methodLink RX0 55 yX0_isLive, Cond.methodLink RL 100 yX7_books, Cond.instanceMethod yX7_books, Cond.selects RX7 yX7_books yX7_books, Cond.code yX7_books cX7_books 4 (some .int)]
def wsL_law0_r16 : List Cond := [Cond.methodLink RX7 97 yX7_loads, Cond.instanceMethod yX7_loads, Cond.selects RX7 yX7_loads yX7_loads, Cond.code yX7_loads cX7_loads 6 none, Cond.methodLink RX7 100 yX7_countOf, Cond.instanceMethod yX7_countOf, Cond.selects RX7 yX7_countOf yX7_countOf, Cond.code yX7_countOf cX7_countOf 5 (some .int), Cond.methodLink RL 101 yL_setName, Cond.static yL_setName, Cond.codeWith yL_setName cL_setName 6 (some .int) [(0, 9, 12, 13), (0, 9, 16, 15), (0, 9, 20, 21)], Cond.methodLink RL 30 yX6_setName, Cond.instanceMethod yX6_setName, Cond.selects RX6 yX6_setName yX6_setName, Cond.code yX6_setName cX6_setName 6 none, Cond.fieldLink RX6 94 "ObjectMapper$Entity" "name" "I", Cond.methodLink RL 104 yX7_setName, Cond.instanceMethod yX7_setName, Cond.selects RX7 yX7_setName yX7_setName, Cond.code yX7_setName cX7_setName 5 none, Cond.methodLink RX7 103 yX7_isAsked, Cond.instanceMethod yX7_isAsked, Cond.selects RX7 yX7_isAsked yX7_isAsked, Cond.code yX7_isAsked cX7_isAsked 7 (some .boolean)]
def wsL_law0_r17 : List Cond := [Cond.methodLink RL 105 yL_setReference, Cond.static yL_setReference, Cond.codeWith yL_setReference cL_setReference 6 (some .int) [(0, 9, 12, 13), (0, 9, 16, 15), (0, 9, 20, 21)], Cond.methodLink RL 34 yX6_setReference, Cond.instanceMethod yX6_setReference, Cond.selects RX6 yX6_setReference yX6_setReference, Cond.code yX6_setReference cX6_setReference 6 none, Cond.fieldLink RX6 108 "ObjectMapper$Entity" "reference" "I", Cond.methodLink RX6 105 yX6_otherKind, Cond.static yX6_otherKind, Cond.code yX6_otherKind cX6_otherKind 1 (some .int), Cond.methodLink RL 107 yX7_setReference, Cond.instanceMethod yX7_setReference, Cond.selects RX7 yX7_setReference yX7_setReference, Cond.code yX7_setReference cX7_setReference 7 none, Cond.methodLink RL 108 yL_remove, Cond.static yL_remove, Cond.codeWith yL_remove cL_remove 6 (some .int) [(0, 12, 15, 13), (0, 12, 19, 15), (0, 12, 23, 21)], Cond.methodLink RL 37 yX6_remove, Cond.instanceMethod yX6_remove, Cond.selects RX6 yX6_remove yX6_remove, Cond.code yX6_remove cX6_remove 5 (some .int), Cond.methodLink RX6 111 yX6_removeAuthor, Cond.instanceMethod yX6_removeAuthor]
def wsL_law0_r18 : List Cond := [Cond.selects RX6 yX6_removeAuthor yX6_removeAuthor, Cond.code yX6_removeAuthor cX6_removeAuthor 5 (some .int), Cond.methodLink RX6 203 yX0_strikeOut, Cond.instanceMethod yX0_strikeOut, Cond.selects RX0 yX0_strikeOut yX0_strikeOut, Cond.code yX0_strikeOut cX0_strikeOut 1 none, Cond.methodLink RX0 52 yX0_forget, Cond.instanceMethod yX0_forget, Cond.selects RX0 yX0_forget yX0_forget, Cond.code yX0_forget cX0_forget 1 none, Cond.methodLink RX6 115 yX6_removeBook, Cond.instanceMethod yX6_removeBook, Cond.selects RX6 yX6_removeBook yX6_removeBook, Cond.code yX6_removeBook cX6_removeBook 5 none, Cond.methodLink RL 110 yX7_remove, Cond.instanceMethod yX7_remove, Cond.selects RX7 yX7_remove yX7_remove, Cond.code yX7_remove cX7_remove 6 (some .int), Cond.methodLink RX7 110 yX7_removesBook, Cond.instanceMethod yX7_removesBook, Cond.selects RX7 yX7_removesBook yX7_removesBook, Cond.code yX7_removesBook cX7_removesBook 5 none, Cond.methodLink RX7 107 yX7_goes, Cond.instanceMethod yX7_goes]
def wsL_law0_r19 : List Cond := [Cond.selects RX7 yX7_goes yX7_goes, Cond.code yX7_goes cX7_goes 5 none, Cond.methodLink RL 111 yL_name, Cond.static yL_name, Cond.codeWith yL_name cL_name 6 (some .int) [(0, 12, 15, 13), (0, 12, 19, 15), (0, 12, 23, 21)], Cond.methodLink RL 40 yX6_name, Cond.instanceMethod yX6_name, Cond.selects RX6 yX6_name yX6_name, Cond.code yX6_name cX6_name 5 (some .int), Cond.methodLink RL 113 yX7_name, Cond.instanceMethod yX7_name, Cond.selects RX7 yX7_name yX7_name, Cond.code yX7_name cX7_name 4 (some .int), Cond.methodLink RL 114 yL_reference, Cond.static yL_reference, Cond.codeWith yL_reference cL_reference 6 (some .int) [(0, 12, 15, 13), (0, 12, 19, 15), (0, 12, 23, 21)], Cond.methodLink RL 43 yX6_reference, Cond.instanceMethod yX6_reference, Cond.selects RX6 yX6_reference yX6_reference, Cond.code yX6_reference cX6_reference 5 (some .int), Cond.methodLink RL 116 yX7_reference, Cond.instanceMethod yX7_reference, Cond.selects RX7 yX7_reference yX7_reference, Cond.code yX7_reference cX7_reference 4 (some .int)]
def wsL_law0_r20 : List Cond := [Cond.methodLink RL 117 yL_known, Cond.static yL_known, Cond.codeWith yL_known cL_known 4 (some .int) [(0, 9, 12, 13)], Cond.methodLink RL 46 yX6_known, Cond.instanceMethod yX6_known, Cond.selects RX6 yX6_known yX6_known, Cond.code yX6_known cX6_known 3 (some .int), Cond.methodLink RX6 119 yX4_countLive, Cond.instanceMethod yX4_countLive, Cond.selects RX4 yX4_countLive yX4_countLive, Cond.code yX4_countLive cX4_countLive 4 (some .int), Cond.methodLink RX4 44 yX4_sizeOf, Cond.methodLink RX4 48 yX4_entityAt, Cond.methodLink RX4 52 yX0_isLive, Cond.methodLink RL 120 yX7_known, Cond.instanceMethod yX7_known, Cond.selects RX7 yX7_known yX7_known, Cond.code yX7_known cX7_known 2 (some .int), Cond.methodLink RX7 114 yX7_knownOf, Cond.instanceMethod yX7_knownOf, Cond.selects RX7 yX7_knownOf yX7_knownOf, Cond.code yX7_knownOf cX7_knownOf 5 (some .int), Cond.methodLink RL 121 yL_dirty, Cond.static yL_dirty]
def wsL_law0_r21 : List Cond := [Cond.codeWith yL_dirty cL_dirty 4 (some .int) [(0, 9, 12, 13)], Cond.methodLink RL 50 yX6_dirty, Cond.instanceMethod yX6_dirty, Cond.selects RX6 yX6_dirty yX6_dirty, Cond.code yX6_dirty cX6_dirty 3 (some .int), Cond.methodLink RX6 122 yX4_countLiveAndDirty, Cond.instanceMethod yX4_countLiveAndDirty, Cond.selects RX4 yX4_countLiveAndDirty yX4_countLiveAndDirty, Cond.code yX4_countLiveAndDirty cX4_countLiveAndDirty 5 (some .int), Cond.methodLink RX4 56 yX0_isChanged, Cond.instanceMethod yX0_isChanged, Cond.selects RX0 yX0_isChanged yX0_isChanged, Cond.code yX0_isChanged cX0_isChanged 1 (some .boolean), Cond.methodLink RL 123 yX7_dirty, Cond.instanceMethod yX7_dirty, Cond.selects RX7 yX7_dirty yX7_dirty, Cond.code yX7_dirty cX7_dirty 5 (some .int), Cond.methodLink RX7 118 yX7_isDirty, Cond.instanceMethod yX7_isDirty, Cond.selects RX7 yX7_isDirty yX7_isDirty, Cond.code yX7_isDirty cX7_isDirty 5 (some .boolean), Cond.methodLink RL 124 yL_flush, Cond.static yL_flush, Cond.codeWith yL_flush cL_flush 4 (some .int) [(0, 9, 12, 13), (0, 9, 15, 21)]]
def wsL_law0_r22 : List Cond := [Cond.methodLink RL 53 yX6_flush, Cond.instanceMethod yX6_flush, Cond.selects RX6 yX6_flush yX6_flush, Cond.code yX6_flush cX6_flush 5 (some .int), Cond.classLink RX6 133 RX1, Cond.instantiable RX1 4, Cond.initialized RX1, Cond.fieldLink RX6 146 "ObjectMapper$Journal" "size" "I", Cond.methodLink RX6 125 yX2_isFull, Cond.instanceMethod yX2_isFull, Cond.selects RX2 yX2_isFull yX2_isFull, Cond.code yX2_isFull cX2_isFull 1 (some .boolean), Cond.fieldLink RX2 18 "ObjectMapper$Journal" "size" "I", Cond.methodLink RX6 135 yX1_init, Cond.instanceMethod yX1_init, Cond.code yX1_init cX1_init 5 none, Cond.methodLink RX1 3 objectInit, Cond.fieldLink RX1 9 "ObjectMapper$Flush" "session" "LObjectMapper$Session;", Cond.fieldLink RX1 15 "ObjectMapper$Flush" "authorTable" "LObjectMapper$Table;", Cond.fieldLink RX1 19 "ObjectMapper$Flush" "bookTable" "LObjectMapper$Table;", Cond.fieldLink RX1 22 "ObjectMapper$Flush" "journal" "LObjectMapper$Journal;", Cond.methodLink RX6 138 yX1_clashes, Cond.instanceMethod yX1_clashes, Cond.selects RX1 yX1_clashes yX1_clashes]
def wsL_law0_r23 : List Cond := [Cond.code yX1_clashes cX1_clashes 1 (some .boolean), Cond.methodLink RX1 26 yX1_clashesIn, Cond.instanceMethod yX1_clashesIn, Cond.selects RX1 yX1_clashesIn yX1_clashesIn, Cond.code yX1_clashesIn cX1_clashesIn 3 (some .boolean), Cond.methodLink RX1 30 yX4_sizeOf, Cond.methodLink RX1 36 yX4_entityAt, Cond.methodLink RX1 40 yX1_tableFor, Cond.instanceMethod yX1_tableFor, Cond.selects RX1 yX1_tableFor yX1_tableFor, Cond.code yX1_tableFor cX1_tableFor 2 (some (.object "ObjectMapper$Table")), Cond.methodLink RX1 44 yX5_rowAt, Cond.methodLink RX1 50 yX0_clashesWith, Cond.instanceMethod yX0_clashesWith, Cond.selects RX0 yX0_clashesWith yX0_clashesWith, Cond.code yX0_clashesWith cX0_clashesWith 2 (some .boolean), Cond.fieldLink RX0 62 "ObjectMapper$Row" "there" "Z", Cond.methodLink RX0 59 yX0_isChanged, Cond.methodLink RX6 141 yX1_leavesDanglingReference, Cond.instanceMethod yX1_leavesDanglingReference, Cond.selects RX1 yX1_leavesDanglingReference yX1_leavesDanglingReference, Cond.code yX1_leavesDanglingReference cX1_leavesDanglingReference 1 (some .boolean), Cond.methodLink RX1 56 yX1_leavesDanglingIn, Cond.instanceMethod yX1_leavesDanglingIn]
def wsL_law0_r24 : List Cond := [Cond.selects RX1 yX1_leavesDanglingIn yX1_leavesDanglingIn, Cond.code yX1_leavesDanglingIn cX1_leavesDanglingIn 4 (some .boolean), Cond.methodLink RX1 59 yX1_referenceBehind, Cond.instanceMethod yX1_referenceBehind, Cond.selects RX1 yX1_referenceBehind yX1_referenceBehind, Cond.code yX1_referenceBehind cX1_referenceBehind 4 (some .int), Cond.fieldLink RX1 86 "ObjectMapper$Entity" "reference" "I", Cond.fieldLink RX1 90 "ObjectMapper$Row" "reference" "I", Cond.methodLink RX1 70 yX0_isNew, Cond.instanceMethod yX0_isNew, Cond.selects RX0 yX0_isNew yX0_isNew, Cond.code yX0_isNew cX0_isNew 1 (some .boolean), Cond.methodLink RX1 83 yX0_isChanged, Cond.methodLink RX1 63 yX1_isThereBehind, Cond.instanceMethod yX1_isThereBehind, Cond.selects RX1 yX1_isThereBehind yX1_isThereBehind, Cond.code yX1_isThereBehind cX1_isThereBehind 4 (some .boolean), Cond.fieldLink RX1 74 "ObjectMapper$Entity" "struckOut" "Z", Cond.fieldLink RX1 78 "ObjectMapper$Row" "there" "Z", Cond.methodLink RX6 149 yX1_doWrites, Cond.instanceMethod yX1_doWrites, Cond.selects RX1 yX1_doWrites yX1_doWrites, Cond.code yX1_doWrites cX1_doWrites 1 none, Cond.methodLink RX1 91 yX1_insertAuthors]
def wsL_law0_r25 : List Cond := [Cond.instanceMethod yX1_insertAuthors, Cond.selects RX1 yX1_insertAuthors yX1_insertAuthors, Cond.code yX1_insertAuthors cX1_insertAuthors 4 none, Cond.methodLink RX1 104 yX1_insert, Cond.instanceMethod yX1_insert, Cond.selects RX1 yX1_insert yX1_insert, Cond.code yX1_insert cX1_insert 6 none, Cond.fieldLink RX1 108 "ObjectMapper$Entity" "name" "I", Cond.methodLink RX1 111 yX3_insert, Cond.instanceMethod yX3_insert, Cond.selects RX3 yX3_insert yX3_insert, Cond.code yX3_insert cX3_insert 3 none, Cond.fieldLink RX3 15 "ObjectMapper$Row" "there" "Z", Cond.fieldLink RX3 19 "ObjectMapper$Row" "name" "I", Cond.fieldLink RX3 22 "ObjectMapper$Row" "version" "I", Cond.methodLink RX1 114 yX2_note, Cond.instanceMethod yX2_note, Cond.selects RX2 yX2_note yX2_note, Cond.code yX2_note cX2_note 4 none, Cond.methodLink RX2 22 yJ7_copyOf_59c91, Cond.static yJ7_copyOf_59c91, Cond.code yJ7_copyOf_59c91 cJ7_copyOf_59c91 3 (some (.array .int)), Cond.methodLink RJ7 316 ⟨"[I", "clone", "()Ljava/lang/Object;"⟩, Cond.sameMethod "[I" "java/lang/Object" "clone" "()Ljava/lang/Object;"]
def wsL_law0_r26 : List Cond := [Cond.native ⟨"java/lang/Object", "clone", "()Ljava/lang/Object;"⟩, Cond.instanceMethod ⟨"java/lang/Object", "clone", "()Ljava/lang/Object;"⟩, Cond.selects "[I" ⟨"[I", "clone", "()Ljava/lang/Object;"⟩ ⟨"java/lang/Object", "clone", "()Ljava/lang/Object;"⟩, Cond.classLink RJ7 317 "[I", Cond.methodLink RX1 120 yX0_takeSnapshot, Cond.methodLink RX1 94 yX1_insertBooks, Cond.instanceMethod yX1_insertBooks, Cond.selects RX1 yX1_insertBooks yX1_insertBooks, Cond.code yX1_insertBooks cX1_insertBooks 3 none, Cond.methodLink RX1 97 yX1_updateChanged, Cond.instanceMethod yX1_updateChanged, Cond.selects RX1 yX1_updateChanged yX1_updateChanged, Cond.code yX1_updateChanged cX1_updateChanged 5 none, Cond.methodLink RX1 124 yX3_update, Cond.instanceMethod yX3_update, Cond.selects RX3 yX3_update yX3_update, Cond.code yX3_update cX3_update 3 none, Cond.methodLink RX1 101 yX1_deleteStruckOut, Cond.instanceMethod yX1_deleteStruckOut, Cond.selects RX1 yX1_deleteStruckOut yX1_deleteStruckOut, Cond.code yX1_deleteStruckOut cX1_deleteStruckOut 4 none, Cond.methodLink RX1 127 yX0_forget, Cond.methodLink RL 126 yX7_flush, Cond.instanceMethod yX7_flush]
def wsL_law0_r27 : List Cond := [Cond.selects RX7 yX7_flush yX7_flush, Cond.code yX7_flush cX7_flush 7 (some .int), Cond.fieldLink RX7 127 "ObjectMapperModel" "writes" "I", Cond.methodLink RX7 133 yX7_areThere, Cond.instanceMethod yX7_areThere, Cond.selects RX7 yX7_areThere yX7_areThere, Cond.code yX7_areThere cX7_areThere 7 (some .boolean), Cond.methodLink RX7 121 yX7_isGone, Cond.instanceMethod yX7_isGone, Cond.selects RX7 yX7_isGone yX7_isGone, Cond.code yX7_isGone cX7_isGone 4 (some .boolean), Cond.methodLink RX7 124 yX7_isMade, Cond.instanceMethod yX7_isMade, Cond.selects RX7 yX7_isMade yX7_isMade, Cond.code yX7_isMade cX7_isMade 4 (some .boolean), Cond.methodLink RX7 136 yX7_areWhole, Cond.instanceMethod yX7_areWhole, Cond.selects RX7 yX7_areWhole yX7_areWhole, Cond.code yX7_areWhole cX7_areWhole 7 (some .boolean), Cond.methodLink RX7 139 yX7_inserts, Cond.instanceMethod yX7_inserts, Cond.selects RX7 yX7_inserts yX7_inserts, Cond.code yX7_inserts cX7_inserts 8 none, Cond.methodLink RX7 130 yX7_notes]
def wsL_law0_r28 : List Cond := [Cond.instanceMethod yX7_notes, Cond.selects RX7 yX7_notes yX7_notes, Cond.code yX7_notes cX7_notes 4 none, Cond.methodLink RX7 142 yX7_updates, Cond.instanceMethod yX7_updates, Cond.selects RX7 yX7_updates yX7_updates, Cond.code yX7_updates cX7_updates 6 none, Cond.methodLink RL 127 yL_clear, Cond.static yL_clear, Cond.codeWith yL_clear cL_clear 4 (some .int) [(0, 9, 12, 13)], Cond.methodLink RL 56 yX6_clear, Cond.instanceMethod yX6_clear, Cond.selects RX6 yX6_clear yX6_clear, Cond.code yX6_clear cX6_clear 4 (some .int), Cond.methodLink RX6 152 yX4_forgetAll, Cond.instanceMethod yX4_forgetAll, Cond.selects RX4 yX4_forgetAll yX4_forgetAll, Cond.code yX4_forgetAll cX4_forgetAll 3 none, Cond.methodLink RX4 59 yX0_forget, Cond.methodLink RL 129 yX7_clear, Cond.instanceMethod yX7_clear, Cond.selects RX7 yX7_clear yX7_clear, Cond.code yX7_clear cX7_clear 5 (some .int), Cond.methodLink RL 130 yL_rows]
def wsL_law0_r29 : List Cond := [Cond.static yL_rows, Cond.codeWith yL_rows cL_rows 4 (some .int) [(0, 9, 12, 15)], Cond.methodLink RL 59 yX6_rows, Cond.instanceMethod yX6_rows, Cond.selects RX6 yX6_rows yX6_rows, Cond.code yX6_rows cX6_rows 2 (some .int), Cond.methodLink RX6 155 yX5_countThere, Cond.instanceMethod yX5_countThere, Cond.selects RX5 yX5_countThere yX5_countThere, Cond.code yX5_countThere cX5_countThere 3 (some .int), Cond.fieldLink RX5 39 "ObjectMapper$Row" "there" "Z", Cond.methodLink RX5 35 yX5_rowAt, Cond.methodLink RL 132 yX7_rows, Cond.instanceMethod yX7_rows, Cond.selects RX7 yX7_rows yX7_rows, Cond.code yX7_rows cX7_rows 4 (some .int), Cond.methodLink RL 133 yL_rowName, Cond.static yL_rowName, Cond.codeWith yL_rowName cL_rowName 5 (some .int) [(0, 10, 13, 15), (0, 10, 17, 13)], Cond.methodLink RL 62 yX6_rowName, Cond.instanceMethod yX6_rowName, Cond.selects RX6 yX6_rowName yX6_rowName, Cond.code yX6_rowName cX6_rowName 3 (some .int), Cond.fieldLink RX6 163 "ObjectMapper$Row" "name" "I"]
def wsL_law0_r30 : List Cond := [Cond.methodLink RX6 159 yX6_checkedRow, Cond.instanceMethod yX6_checkedRow, Cond.selects RX6 yX6_checkedRow yX6_checkedRow, Cond.code yX6_checkedRow cX6_checkedRow 4 (some (.object "ObjectMapper$Row")), Cond.methodLink RL 135 yX7_rowName, Cond.instanceMethod yX7_rowName, Cond.selects RX7 yX7_rowName yX7_rowName, Cond.code yX7_rowName cX7_rowName 3 (some .int), Cond.methodLink RX7 145 yX7_isRowAsked, Cond.instanceMethod yX7_isRowAsked, Cond.selects RX7 yX7_isRowAsked yX7_isRowAsked, Cond.code yX7_isRowAsked cX7_isRowAsked 3 (some .boolean), Cond.methodLink RL 136 yL_rowReference, Cond.static yL_rowReference, Cond.codeWith yL_rowReference cL_rowReference 5 (some .int) [(0, 10, 13, 15), (0, 10, 17, 13)], Cond.methodLink RL 65 yX6_rowReference, Cond.instanceMethod yX6_rowReference, Cond.selects RX6 yX6_rowReference yX6_rowReference, Cond.code yX6_rowReference cX6_rowReference 3 (some .int), Cond.methodLink RL 138 yX7_rowReference, Cond.instanceMethod yX7_rowReference, Cond.selects RX7 yX7_rowReference yX7_rowReference, Cond.code yX7_rowReference cX7_rowReference 3 (some .int), Cond.methodLink RL 139 yL_rowVersion]
def wsL_law0_r31 : List Cond := [Cond.static yL_rowVersion, Cond.codeWith yL_rowVersion cL_rowVersion 5 (some .int) [(0, 10, 13, 15), (0, 10, 17, 13)], Cond.methodLink RL 68 yX6_rowVersion, Cond.instanceMethod yX6_rowVersion, Cond.selects RX6 yX6_rowVersion yX6_rowVersion, Cond.code yX6_rowVersion cX6_rowVersion 3 (some .int), Cond.fieldLink RX6 165 "ObjectMapper$Row" "version" "I", Cond.methodLink RL 141 yX7_rowVersion, Cond.instanceMethod yX7_rowVersion, Cond.selects RX7 yX7_rowVersion yX7_rowVersion, Cond.code yX7_rowVersion cX7_rowVersion 3 (some .int), Cond.methodLink RL 142 yX6_writes, Cond.instanceMethod yX6_writes, Cond.selects RX6 yX6_writes yX6_writes, Cond.code yX6_writes cX6_writes 1 (some .int), Cond.methodLink RL 145 yX7_writes, Cond.instanceMethod yX7_writes, Cond.selects RX7 yX7_writes yX7_writes, Cond.code yX7_writes cX7_writes 1 (some .int), Cond.methodLink RL 146 yL_write, Cond.static yL_write, Cond.codeWith yL_write cL_write 4 (some .int) [(0, 9, 12, 13)], Cond.methodLink RL 71 yX6_write, Cond.instanceMethod yX6_write]
def wsL_law0_r32 : List Cond := [Cond.selects RX6 yX6_write yX6_write, Cond.code yX6_write cX6_write 2 (some .int), Cond.methodLink RX6 168 yX6_checkWrite, Cond.instanceMethod yX6_checkWrite, Cond.selects RX6 yX6_checkWrite yX6_checkWrite, Cond.code yX6_checkWrite cX6_checkWrite 2 none, Cond.methodLink RX6 171 yX2_actionAt, Cond.instanceMethod yX2_actionAt, Cond.selects RX2 yX2_actionAt yX2_actionAt, Cond.code yX2_actionAt cX2_actionAt 2 (some .int), Cond.methodLink RL 148 yX7_write, Cond.instanceMethod yX7_write, Cond.selects RX7 yX7_write yX7_write, Cond.code yX7_write cX7_write 2 (some .int), Cond.methodLink RX7 148 yX7_isWrite, Cond.instanceMethod yX7_isWrite, Cond.selects RX7 yX7_isWrite yX7_isWrite, Cond.code yX7_isWrite cX7_isWrite 2 (some .boolean), Cond.methodLink RL 149 yL_written, Cond.static yL_written, Cond.codeWith yL_written cL_written 4 (some .int) [(0, 9, 12, 13)], Cond.methodLink RL 74 yX6_written, Cond.instanceMethod yX6_written, Cond.selects RX6 yX6_written yX6_written]
def wsL_law0_r33 : List Cond := [Cond.code yX6_written cX6_written 2 (some .int), Cond.methodLink RX6 174 yX2_rowNumberAt, Cond.instanceMethod yX2_rowNumberAt, Cond.selects RX2 yX2_rowNumberAt yX2_rowNumberAt, Cond.code yX2_rowNumberAt cX2_rowNumberAt 2 (some .int), Cond.methodLink RL 151 yX7_written, Cond.instanceMethod yX7_written, Cond.selects RX7 yX7_written yX7_written, Cond.code yX7_written cX7_written 2 (some .int)]
def wsL_law0 : List Cond := (wsL_law0_r1 ++ (wsL_law0_r2 ++ (wsL_law0_r3 ++ (wsL_law0_r4 ++ (wsL_law0_r5 ++ (wsL_law0_r6 ++ (wsL_law0_r7 ++ (wsL_law0_r8 ++ (wsL_law0_r9 ++ (wsL_law0_r10 ++ (wsL_law0_r11 ++ (wsL_law0_r12 ++ (wsL_law0_r13 ++ (wsL_law0_r14 ++ (wsL_law0_r15 ++ (wsL_law0_r16 ++ (wsL_law0_r17 ++ (wsL_law0_r18 ++ (wsL_law0_r19 ++ (wsL_law0_r20 ++ (wsL_law0_r21 ++ (wsL_law0_r22 ++ (wsL_law0_r23 ++ (wsL_law0_r24 ++ (wsL_law0_r25 ++ (wsL_law0_r26 ++ (wsL_law0_r27 ++ (wsL_law0_r28 ++ (wsL_law0_r29 ++ (wsL_law0_r30 ++ (wsL_law0_r31 ++ (wsL_law0_r32 ++ wsL_law0_r33)))))))))))))))))))))))))))))))) ++ wsX60 ++ wsX70 ++ wsX50 ++ wsX20 ++ wsX40 ++ wsJx4a65c0 ++ wsX30 ++ wsX00 ++ wsX10 ++ ([] : List Cond)
def wsL_law : List Cond := wsL_law0 ++ (vx_atS RX6 181 "java/lang/IndexOutOfBoundsException" ["java/lang/RuntimeException", "java/lang/Exception"]).filter goodWord ++ (vx_atS RX6 102 "java/lang/IllegalArgumentException" ["java/lang/RuntimeException", "java/lang/Exception"]).filter goodWord ++ (vx_atS RX6 132 "java/lang/IllegalStateException" ["java/lang/RuntimeException", "java/lang/Exception"]).filter goodWord
abbrev vwCl : List vw_C := [(RJx4a65c, TJx4a65c, 3), (RX0, TX0, 8), (RX1, TX1, 4), (RX2, TX2, 3), (RX3, TX3, 4), (RX4, TX4, 3), (RX5, TX5, 2), (RX6, TX6, 4), (RX7, TX7, 16)]
end
section
set_option maxRecDepth 20000 in
theorem in_wsL_law0_r1 : ∀ w ∈ wsL_law0_r1, w ∈ lw_tbl := List.forall_mem_cons.mpr ⟨List.mem_of_getElem? (i := 69) (by decide +kernel), List.forall_mem_cons.mpr ⟨List.mem_of_getElem? (i := 70) (by decide +kernel), List.forall_mem_cons.mpr ⟨List.mem_of_getElem? (i := 46) (by decide +kernel), List.forall_mem_cons.mpr ⟨List.mem_of_getElem? (i := 807) (by decide +kernel), List.forall_mem_cons.mpr ⟨List.mem_of_getElem? (i := 808) (by decide +kernel), List.forall_mem_cons.mpr ⟨List.mem_of_getElem? (i := 55) (by decide +kernel), List.forall_mem_cons.mpr ⟨List.mem_of_getElem? (i := 1050) (by decide +kernel), List.forall_mem_cons.mpr ⟨List.mem_of_getElem? (i := 71) (by decide +kernel), List.forall_mem_cons.mpr ⟨List.mem_of_getElem? (i := 72) (by decide +kernel), List.forall_mem_cons.mpr ⟨List.mem_of_getElem? (i := 73) (by decide +kernel), List.forall_mem_cons.mpr ⟨List.mem_of_getElem? (i := 74) (by decide +kernel), List.forall_mem_cons.mpr ⟨List.mem_of_getElem? (i := 75) (by decide +kernel), List.forall_mem_cons.mpr ⟨List.mem_of_getElem? (i := 76) (by decide +kernel), List.forall_mem_cons.mpr ⟨List.mem_of_getElem? (i := 77) (by decide +kernel), List.forall_mem_cons.mpr ⟨List.mem_of_getElem? (i := 78) (by decide +kernel), List.forall_mem_cons.mpr ⟨List.mem_of_getElem? (i := 47) (by decide +kernel), List.forall_mem_cons.mpr ⟨List.mem_of_getElem? (i := 220) (by decide +kernel), List.forall_mem_cons.mpr ⟨List.mem_of_getElem? (i := 221) (by decide +kernel), List.forall_mem_cons.mpr ⟨List.mem_of_getElem? (i := 146) (by decide +kernel), List.forall_mem_cons.mpr ⟨List.mem_of_getElem? (i := 147) (by decide +kernel), List.forall_mem_cons.mpr ⟨List.mem_of_getElem? (i := 52) (by decide +kernel), List.forall_mem_cons.mpr ⟨List.mem_of_getElem? (i := 222) (by decide +kernel), List.forall_mem_cons.mpr ⟨List.mem_of_getElem? (i := 164) (by decide +kernel), List.forall_mem_cons.mpr ⟨List.mem_of_getElem? (i := 223) (by decide +kernel), fun _ h => absurd h List.not_mem_nil⟩⟩⟩⟩⟩⟩⟩⟩⟩⟩⟩⟩⟩⟩⟩⟩⟩⟩⟩⟩⟩⟩⟩⟩
set_option maxRecDepth 20000 in
theorem in_wsL_law0_r2 : ∀ w ∈ wsL_law0_r2, w ∈ lw_tbl := List.forall_mem_cons.mpr ⟨List.mem_of_getElem? (i := 166) (by decide +kernel), List.forall_mem_cons.mpr ⟨List.mem_of_getElem? (i := 53) (by decide +kernel), List.forall_mem_cons.mpr ⟨List.mem_of_getElem? (i := 80) (by decide +kernel), List.forall_mem_cons.mpr ⟨List.mem_of_getElem? (i := 81) (by decide +kernel), List.forall_mem_cons.mpr ⟨List.mem_of_getElem? (i := 82) (by decide +kernel), List.forall_mem_cons.mpr ⟨List.mem_of_getElem? (i := 83) (by decide +kernel), List.forall_mem_cons.mpr ⟨List.mem_of_getElem? (i := 84) (by decide +kernel), List.forall_mem_cons.mpr ⟨List.mem_of_getElem? (i := 50) (by decide +kernel), List.forall_mem_cons.mpr ⟨List.mem_of_getElem? (i := 139) (by decide +kernel), List.forall_mem_cons.mpr ⟨List.mem_of_getElem? (i := 109) (by decide +kernel), List.forall_mem_cons.mpr ⟨List.mem_of_getElem? (i := 110) (by decide +kernel), List.forall_mem_cons.mpr ⟨List.mem_of_getElem? (i := 51) (by decide +kernel), List.forall_mem_cons.mpr ⟨List.mem_of_getElem? (i := 140) (by decide +kernel), List.forall_mem_cons.mpr ⟨List.mem_of_getElem? (i := 85) (by decide +kernel), List.forall_mem_cons.mpr ⟨List.mem_of_getElem? (i := 86) (by decide +kernel), List.forall_mem_cons.mpr ⟨List.mem_of_getElem? (i := 87) (by decide +kernel), List.forall_mem_cons.mpr ⟨List.mem_of_getElem? (i := 95) (by decide +kernel), List.forall_mem_cons.mpr ⟨List.mem_of_getElem? (i := 97) (by decide +kernel), List.forall_mem_cons.mpr ⟨List.mem_of_getElem? (i := 88) (by decide +kernel), List.forall_mem_cons.mpr ⟨List.mem_of_getElem? (i := 89) (by decide +kernel), List.forall_mem_cons.mpr ⟨List.mem_of_getElem? (i := 49) (by decide +kernel), List.forall_mem_cons.mpr ⟨List.mem_of_getElem? (i := 90) (by decide +kernel), List.forall_mem_cons.mpr ⟨List.mem_of_getElem? (i := 99) (by decide +kernel), List.forall_mem_cons.mpr ⟨List.mem_of_getElem? (i := 91) (by decide +kernel), fun _ h => absurd h List.not_mem_nil⟩⟩⟩⟩⟩⟩⟩⟩⟩⟩⟩⟩⟩⟩⟩⟩⟩⟩⟩⟩⟩⟩⟩⟩
set_option maxRecDepth 20000 in
theorem in_wsL_law0_r3 : ∀ w ∈ wsL_law0_r3, w ∈ lw_tbl := List.forall_mem_cons.mpr ⟨List.mem_of_getElem? (i := 92) (by decide +kernel), List.forall_mem_cons.mpr ⟨List.mem_of_getElem? (i := 48) (by decide +kernel), List.forall_mem_cons.mpr ⟨List.mem_of_getElem? (i := 93) (by decide +kernel), List.forall_mem_cons.mpr ⟨List.mem_of_getElem? (i := 94) (by decide +kernel), List.forall_mem_cons.mpr ⟨List.mem_of_getElem? (i := 112) (by decide +kernel), List.forall_mem_cons.mpr ⟨List.mem_of_getElem? (i := 113) (by decide +kernel), List.forall_mem_cons.mpr ⟨List.mem_of_getElem? (i := 114) (by decide +kernel), List.forall_mem_cons.mpr ⟨List.mem_of_getElem? (i := 123) (by decide +kernel), List.forall_mem_cons.mpr ⟨List.mem_of_getElem? (i := 149) (by decide +kernel), List.forall_mem_cons.mpr ⟨List.mem_of_getElem? (i := 150) (by decide +kernel), List.forall_mem_cons.mpr ⟨List.mem_of_getElem? (i := 151) (by decide +kernel), List.forall_mem_cons.mpr ⟨List.mem_of_getElem? (i := 163) (by decide +kernel), List.forall_mem_cons.mpr ⟨List.mem_of_getElem? (i := 154) (by decide +kernel), List.forall_mem_cons.mpr ⟨List.mem_of_getElem? (i := 155) (by decide +kernel), List.forall_mem_cons.mpr ⟨List.mem_of_getElem? (i := 168) (by decide +kernel), List.forall_mem_cons.mpr ⟨List.mem_of_getElem? (i := 169) (by decide +kernel), List.forall_mem_cons.mpr ⟨List.mem_of_getElem? (i := 170) (by decide +kernel), List.forall_mem_cons.mpr ⟨List.mem_of_getElem? (i := 171) (by decide +kernel), List.forall_mem_cons.mpr ⟨List.mem_of_getElem? (i := 210) (by decide +kernel), List.forall_mem_cons.mpr ⟨List.mem_of_getElem? (i := 211) (by decide +kernel), List.forall_mem_cons.mpr ⟨List.mem_of_getElem? (i := 173) (by decide +kernel), List.forall_mem_cons.mpr ⟨List.mem_of_getElem? (i := 174) (by decide +kernel), List.forall_mem_cons.mpr ⟨List.mem_of_getElem? (i := 54) (by decide +kernel), List.forall_mem_cons.mpr ⟨List.mem_of_getElem? (i := 212) (by decide +kernel), fun _ h => absurd h List.not_mem_nil⟩⟩⟩⟩⟩⟩⟩⟩⟩⟩⟩⟩⟩⟩⟩⟩⟩⟩⟩⟩⟩⟩⟩⟩
set_option maxRecDepth 20000 in
theorem in_wsL_law0_r4 : ∀ w ∈ wsL_law0_r4, w ∈ lw_tbl := List.forall_mem_cons.mpr ⟨List.mem_of_getElem? (i := 172) (by decide +kernel), List.forall_mem_cons.mpr ⟨List.mem_of_getElem? (i := 176) (by decide +kernel), List.forall_mem_cons.mpr ⟨List.mem_of_getElem? (i := 177) (by decide +kernel), List.forall_mem_cons.mpr ⟨List.mem_of_getElem? (i := 178) (by decide +kernel), List.forall_mem_cons.mpr ⟨List.mem_of_getElem? (i := 187) (by decide +kernel), List.forall_mem_cons.mpr ⟨List.mem_of_getElem? (i := 809) (by decide +kernel), List.forall_mem_cons.mpr ⟨List.mem_of_getElem? (i := 810) (by decide +kernel), List.forall_mem_cons.mpr ⟨List.mem_of_getElem? (i := 811) (by decide +kernel), List.forall_mem_cons.mpr ⟨List.mem_of_getElem? (i := 812) (by decide +kernel), List.forall_mem_cons.mpr ⟨List.mem_of_getElem? (i := 814) (by decide +kernel), List.forall_mem_cons.mpr ⟨List.mem_of_getElem? (i := 862) (by decide +kernel), List.forall_mem_cons.mpr ⟨List.mem_of_getElem? (i := 815) (by decide +kernel), List.forall_mem_cons.mpr ⟨List.mem_of_getElem? (i := 816) (by decide +kernel), List.forall_mem_cons.mpr ⟨List.mem_of_getElem? (i := 817) (by decide +kernel), List.forall_mem_cons.mpr ⟨List.mem_of_getElem? (i := 818) (by decide +kernel), List.forall_mem_cons.mpr ⟨List.mem_of_getElem? (i := 819) (by decide +kernel), List.forall_mem_cons.mpr ⟨List.mem_of_getElem? (i := 820) (by decide +kernel), List.forall_mem_cons.mpr ⟨List.mem_of_getElem? (i := 821) (by decide +kernel), List.forall_mem_cons.mpr ⟨List.mem_of_getElem? (i := 822) (by decide +kernel), List.forall_mem_cons.mpr ⟨List.mem_of_getElem? (i := 823) (by decide +kernel), List.forall_mem_cons.mpr ⟨List.mem_of_getElem? (i := 824) (by decide +kernel), List.forall_mem_cons.mpr ⟨List.mem_of_getElem? (i := 825) (by decide +kernel), List.forall_mem_cons.mpr ⟨List.mem_of_getElem? (i := 826) (by decide +kernel), List.forall_mem_cons.mpr ⟨List.mem_of_getElem? (i := 828) (by decide +kernel), fun _ h => absurd h List.not_mem_nil⟩⟩⟩⟩⟩⟩⟩⟩⟩⟩⟩⟩⟩⟩⟩⟩⟩⟩⟩⟩⟩⟩⟩⟩
set_option maxRecDepth 20000 in
theorem in_wsL_law0_r5 : ∀ w ∈ wsL_law0_r5, w ∈ lw_tbl := List.forall_mem_cons.mpr ⟨List.mem_of_getElem? (i := 237) (by decide +kernel), List.forall_mem_cons.mpr ⟨List.mem_of_getElem? (i := 238) (by decide +kernel), List.forall_mem_cons.mpr ⟨List.mem_of_getElem? (i := 45) (by decide +kernel), List.forall_mem_cons.mpr ⟨List.mem_of_getElem? (i := 239) (by decide +kernel), List.forall_mem_cons.mpr ⟨List.mem_of_getElem? (i := 240) (by decide +kernel), List.forall_mem_cons.mpr ⟨List.mem_of_getElem? (i := 241) (by decide +kernel), List.forall_mem_cons.mpr ⟨List.mem_of_getElem? (i := 242) (by decide +kernel), List.forall_mem_cons.mpr ⟨List.mem_of_getElem? (i := 243) (by decide +kernel), List.forall_mem_cons.mpr ⟨List.mem_of_getElem? (i := 244) (by decide +kernel), List.forall_mem_cons.mpr ⟨List.mem_of_getElem? (i := 245) (by decide +kernel), List.forall_mem_cons.mpr ⟨List.mem_of_getElem? (i := 246) (by decide +kernel), List.forall_mem_cons.mpr ⟨List.mem_of_getElem? (i := 248) (by decide +kernel), List.forall_mem_cons.mpr ⟨List.mem_of_getElem? (i := 0) (by decide +kernel), List.forall_mem_cons.mpr ⟨List.mem_of_getElem? (i := 249) (by decide +kernel), List.forall_mem_cons.mpr ⟨List.mem_of_getElem? (i := 250) (by decide +kernel), List.forall_mem_cons.mpr ⟨List.mem_of_getElem? (i := 59) (by decide +kernel), List.forall_mem_cons.mpr ⟨List.mem_of_getElem? (i := 318) (by decide +kernel), List.forall_mem_cons.mpr ⟨List.mem_of_getElem? (i := 319) (by decide +kernel), List.forall_mem_cons.mpr ⟨List.mem_of_getElem? (i := 320) (by decide +kernel), List.forall_mem_cons.mpr ⟨List.mem_of_getElem? (i := 321) (by decide +kernel), List.forall_mem_cons.mpr ⟨List.mem_of_getElem? (i := 60) (by decide +kernel), List.forall_mem_cons.mpr ⟨List.mem_of_getElem? (i := 337) (by decide +kernel), List.forall_mem_cons.mpr ⟨List.mem_of_getElem? (i := 339) (by decide +kernel), List.forall_mem_cons.mpr ⟨List.mem_of_getElem? (i := 2) (by decide +kernel), fun _ h => absurd h List.not_mem_nil⟩⟩⟩⟩⟩⟩⟩⟩⟩⟩⟩⟩⟩⟩⟩⟩⟩⟩⟩⟩⟩⟩⟩⟩
set_option maxRecDepth 20000 in
theorem in_wsL_law0_r6 : ∀ w ∈ wsL_law0_r6, w ∈ lw_tbl := List.forall_mem_cons.mpr ⟨List.mem_of_getElem? (i := 340) (by decide +kernel), List.forall_mem_cons.mpr ⟨List.mem_of_getElem? (i := 341) (by decide +kernel), List.forall_mem_cons.mpr ⟨List.mem_of_getElem? (i := 343) (by decide +kernel), List.forall_mem_cons.mpr ⟨List.mem_of_getElem? (i := 3) (by decide +kernel), List.forall_mem_cons.mpr ⟨List.mem_of_getElem? (i := 344) (by decide +kernel), List.forall_mem_cons.mpr ⟨List.mem_of_getElem? (i := 345) (by decide +kernel), List.forall_mem_cons.mpr ⟨List.mem_of_getElem? (i := 346) (by decide +kernel), List.forall_mem_cons.mpr ⟨List.mem_of_getElem? (i := 347) (by decide +kernel), List.forall_mem_cons.mpr ⟨List.mem_of_getElem? (i := 348) (by decide +kernel), List.forall_mem_cons.mpr ⟨List.mem_of_getElem? (i := 349) (by decide +kernel), List.forall_mem_cons.mpr ⟨List.mem_of_getElem? (i := 350) (by decide +kernel), List.forall_mem_cons.mpr ⟨List.mem_of_getElem? (i := 351) (by decide +kernel), List.forall_mem_cons.mpr ⟨List.mem_of_getElem? (i := 352) (by decide +kernel), List.forall_mem_cons.mpr ⟨List.mem_of_getElem? (i := 98) (by decide +kernel), List.forall_mem_cons.mpr ⟨List.mem_of_getElem? (i := 353) (by decide +kernel), List.forall_mem_cons.mpr ⟨List.mem_of_getElem? (i := 354) (by decide +kernel), List.forall_mem_cons.mpr ⟨List.mem_of_getElem? (i := 355) (by decide +kernel), List.forall_mem_cons.mpr ⟨List.mem_of_getElem? (i := 356) (by decide +kernel), List.forall_mem_cons.mpr ⟨List.mem_of_getElem? (i := 357) (by decide +kernel), List.forall_mem_cons.mpr ⟨List.mem_of_getElem? (i := 358) (by decide +kernel), List.forall_mem_cons.mpr ⟨List.mem_of_getElem? (i := 359) (by decide +kernel), List.forall_mem_cons.mpr ⟨List.mem_of_getElem? (i := 360) (by decide +kernel), List.forall_mem_cons.mpr ⟨List.mem_of_getElem? (i := 100) (by decide +kernel), List.forall_mem_cons.mpr ⟨List.mem_of_getElem? (i := 101) (by decide +kernel), fun _ h => absurd h List.not_mem_nil⟩⟩⟩⟩⟩⟩⟩⟩⟩⟩⟩⟩⟩⟩⟩⟩⟩⟩⟩⟩⟩⟩⟩⟩
set_option maxRecDepth 20000 in
theorem in_wsL_law0_r7 : ∀ w ∈ wsL_law0_r7, w ∈ lw_tbl := List.forall_mem_cons.mpr ⟨List.mem_of_getElem? (i := 361) (by decide +kernel), List.forall_mem_cons.mpr ⟨List.mem_of_getElem? (i := 363) (by decide +kernel), List.forall_mem_cons.mpr ⟨List.mem_of_getElem? (i := 4) (by decide +kernel), List.forall_mem_cons.mpr ⟨List.mem_of_getElem? (i := 364) (by decide +kernel), List.forall_mem_cons.mpr ⟨List.mem_of_getElem? (i := 365) (by decide +kernel), List.forall_mem_cons.mpr ⟨List.mem_of_getElem? (i := 367) (by decide +kernel), List.forall_mem_cons.mpr ⟨List.mem_of_getElem? (i := 5) (by decide +kernel), List.forall_mem_cons.mpr ⟨List.mem_of_getElem? (i := 368) (by decide +kernel), List.forall_mem_cons.mpr ⟨List.mem_of_getElem? (i := 369) (by decide +kernel), List.forall_mem_cons.mpr ⟨List.mem_of_getElem? (i := 371) (by decide +kernel), List.forall_mem_cons.mpr ⟨List.mem_of_getElem? (i := 6) (by decide +kernel), List.forall_mem_cons.mpr ⟨List.mem_of_getElem? (i := 372) (by decide +kernel), List.forall_mem_cons.mpr ⟨List.mem_of_getElem? (i := 414) (by decide +kernel), List.forall_mem_cons.mpr ⟨List.mem_of_getElem? (i := 377) (by decide +kernel), List.forall_mem_cons.mpr ⟨List.mem_of_getElem? (i := 62) (by decide +kernel), List.forall_mem_cons.mpr ⟨List.mem_of_getElem? (i := 378) (by decide +kernel), List.forall_mem_cons.mpr ⟨List.mem_of_getElem? (i := 415) (by decide +kernel), List.forall_mem_cons.mpr ⟨List.mem_of_getElem? (i := 373) (by decide +kernel), List.forall_mem_cons.mpr ⟨List.mem_of_getElem? (i := 374) (by decide +kernel), List.forall_mem_cons.mpr ⟨List.mem_of_getElem? (i := 61) (by decide +kernel), List.forall_mem_cons.mpr ⟨List.mem_of_getElem? (i := 375) (by decide +kernel), List.forall_mem_cons.mpr ⟨List.mem_of_getElem? (i := 376) (by decide +kernel), List.forall_mem_cons.mpr ⟨List.mem_of_getElem? (i := 379) (by decide +kernel), List.forall_mem_cons.mpr ⟨List.mem_of_getElem? (i := 380) (by decide +kernel), fun _ h => absurd h List.not_mem_nil⟩⟩⟩⟩⟩⟩⟩⟩⟩⟩⟩⟩⟩⟩⟩⟩⟩⟩⟩⟩⟩⟩⟩⟩
set_option maxRecDepth 20000 in
theorem in_wsL_law0_r8 : ∀ w ∈ wsL_law0_r8, w ∈ lw_tbl := List.forall_mem_cons.mpr ⟨List.mem_of_getElem? (i := 381) (by decide +kernel), List.forall_mem_cons.mpr ⟨List.mem_of_getElem? (i := 382) (by decide +kernel), List.forall_mem_cons.mpr ⟨List.mem_of_getElem? (i := 383) (by decide +kernel), List.forall_mem_cons.mpr ⟨List.mem_of_getElem? (i := 384) (by decide +kernel), List.forall_mem_cons.mpr ⟨List.mem_of_getElem? (i := 63) (by decide +kernel), List.forall_mem_cons.mpr ⟨List.mem_of_getElem? (i := 385) (by decide +kernel), List.forall_mem_cons.mpr ⟨List.mem_of_getElem? (i := 386) (by decide +kernel), List.forall_mem_cons.mpr ⟨List.mem_of_getElem? (i := 1067) (by decide +kernel), List.forall_mem_cons.mpr ⟨List.mem_of_getElem? (i := 387) (by decide +kernel), List.forall_mem_cons.mpr ⟨List.mem_of_getElem? (i := 401) (by decide +kernel), List.forall_mem_cons.mpr ⟨List.mem_of_getElem? (i := 402) (by decide +kernel), List.forall_mem_cons.mpr ⟨List.mem_of_getElem? (i := 403) (by decide +kernel), List.forall_mem_cons.mpr ⟨List.mem_of_getElem? (i := 404) (by decide +kernel), List.forall_mem_cons.mpr ⟨List.mem_of_getElem? (i := 405) (by decide +kernel), List.forall_mem_cons.mpr ⟨List.mem_of_getElem? (i := 407) (by decide +kernel), List.forall_mem_cons.mpr ⟨List.mem_of_getElem? (i := 408) (by decide +kernel), List.forall_mem_cons.mpr ⟨List.mem_of_getElem? (i := 409) (by decide +kernel), List.forall_mem_cons.mpr ⟨List.mem_of_getElem? (i := 410) (by decide +kernel), List.forall_mem_cons.mpr ⟨List.mem_of_getElem? (i := 411) (by decide +kernel), List.forall_mem_cons.mpr ⟨List.mem_of_getElem? (i := 413) (by decide +kernel), List.forall_mem_cons.mpr ⟨List.mem_of_getElem? (i := 412) (by decide +kernel), List.forall_mem_cons.mpr ⟨List.mem_of_getElem? (i := 64) (by decide +kernel), List.forall_mem_cons.mpr ⟨List.mem_of_getElem? (i := 416) (by decide +kernel), List.forall_mem_cons.mpr ⟨List.mem_of_getElem? (i := 417) (by decide +kernel), fun _ h => absurd h List.not_mem_nil⟩⟩⟩⟩⟩⟩⟩⟩⟩⟩⟩⟩⟩⟩⟩⟩⟩⟩⟩⟩⟩⟩⟩⟩
set_option maxRecDepth 20000 in
theorem in_wsL_law0_r9 : ∀ w ∈ wsL_law0_r9, w ∈ lw_tbl := List.forall_mem_cons.mpr ⟨List.mem_of_getElem? (i := 418) (by decide +kernel), List.forall_mem_cons.mpr ⟨List.mem_of_getElem? (i := 419) (by decide +kernel), List.forall_mem_cons.mpr ⟨List.mem_of_getElem? (i := 420) (by decide +kernel), List.forall_mem_cons.mpr ⟨List.mem_of_getElem? (i := 422) (by decide +kernel), List.forall_mem_cons.mpr ⟨List.mem_of_getElem? (i := 7) (by decide +kernel), List.forall_mem_cons.mpr ⟨List.mem_of_getElem? (i := 423) (by decide +kernel), List.forall_mem_cons.mpr ⟨List.mem_of_getElem? (i := 424) (by decide +kernel), List.forall_mem_cons.mpr ⟨List.mem_of_getElem? (i := 425) (by decide +kernel), List.forall_mem_cons.mpr ⟨List.mem_of_getElem? (i := 426) (by decide +kernel), List.forall_mem_cons.mpr ⟨List.mem_of_getElem? (i := 427) (by decide +kernel), List.forall_mem_cons.mpr ⟨List.mem_of_getElem? (i := 428) (by decide +kernel), List.forall_mem_cons.mpr ⟨List.mem_of_getElem? (i := 173) (by decide +kernel), List.forall_mem_cons.mpr ⟨List.mem_of_getElem? (i := 429) (by decide +kernel), List.forall_mem_cons.mpr ⟨List.mem_of_getElem? (i := 430) (by decide +kernel), List.forall_mem_cons.mpr ⟨List.mem_of_getElem? (i := 431) (by decide +kernel), List.forall_mem_cons.mpr ⟨List.mem_of_getElem? (i := 432) (by decide +kernel), List.forall_mem_cons.mpr ⟨List.mem_of_getElem? (i := 433) (by decide +kernel), List.forall_mem_cons.mpr ⟨List.mem_of_getElem? (i := 434) (by decide +kernel), List.forall_mem_cons.mpr ⟨List.mem_of_getElem? (i := 435) (by decide +kernel), List.forall_mem_cons.mpr ⟨List.mem_of_getElem? (i := 65) (by decide +kernel), List.forall_mem_cons.mpr ⟨List.mem_of_getElem? (i := 436) (by decide +kernel), List.forall_mem_cons.mpr ⟨List.mem_of_getElem? (i := 437) (by decide +kernel), List.forall_mem_cons.mpr ⟨List.mem_of_getElem? (i := 438) (by decide +kernel), List.forall_mem_cons.mpr ⟨List.mem_of_getElem? (i := 66) (by decide +kernel), fun _ h => absurd h List.not_mem_nil⟩⟩⟩⟩⟩⟩⟩⟩⟩⟩⟩⟩⟩⟩⟩⟩⟩⟩⟩⟩⟩⟩⟩⟩
set_option maxRecDepth 20000 in
theorem in_wsL_law0_r10 : ∀ w ∈ wsL_law0_r10, w ∈ lw_tbl := List.forall_mem_cons.mpr ⟨List.mem_of_getElem? (i := 439) (by decide +kernel), List.forall_mem_cons.mpr ⟨List.mem_of_getElem? (i := 440) (by decide +kernel), List.forall_mem_cons.mpr ⟨List.mem_of_getElem? (i := 441) (by decide +kernel), List.forall_mem_cons.mpr ⟨List.mem_of_getElem? (i := 442) (by decide +kernel), List.forall_mem_cons.mpr ⟨List.mem_of_getElem? (i := 443) (by decide +kernel), List.forall_mem_cons.mpr ⟨List.mem_of_getElem? (i := 444) (by decide +kernel), List.forall_mem_cons.mpr ⟨List.mem_of_getElem? (i := 445) (by decide +kernel), List.forall_mem_cons.mpr ⟨List.mem_of_getElem? (i := 446) (by decide +kernel), List.forall_mem_cons.mpr ⟨List.mem_of_getElem? (i := 447) (by decide +kernel), List.forall_mem_cons.mpr ⟨List.mem_of_getElem? (i := 179) (by decide +kernel), List.forall_mem_cons.mpr ⟨List.mem_of_getElem? (i := 184) (by decide +kernel), List.forall_mem_cons.mpr ⟨List.mem_of_getElem? (i := 867) (by decide +kernel), List.forall_mem_cons.mpr ⟨List.mem_of_getElem? (i := 868) (by decide +kernel), List.forall_mem_cons.mpr ⟨List.mem_of_getElem? (i := 869) (by decide +kernel), List.forall_mem_cons.mpr ⟨List.mem_of_getElem? (i := 870) (by decide +kernel), List.forall_mem_cons.mpr ⟨List.mem_of_getElem? (i := 871) (by decide +kernel), List.forall_mem_cons.mpr ⟨List.mem_of_getElem? (i := 872) (by decide +kernel), List.forall_mem_cons.mpr ⟨List.mem_of_getElem? (i := 873) (by decide +kernel), List.forall_mem_cons.mpr ⟨List.mem_of_getElem? (i := 874) (by decide +kernel), List.forall_mem_cons.mpr ⟨List.mem_of_getElem? (i := 875) (by decide +kernel), List.forall_mem_cons.mpr ⟨List.mem_of_getElem? (i := 876) (by decide +kernel), List.forall_mem_cons.mpr ⟨List.mem_of_getElem? (i := 877) (by decide +kernel), List.forall_mem_cons.mpr ⟨List.mem_of_getElem? (i := 879) (by decide +kernel), List.forall_mem_cons.mpr ⟨List.mem_of_getElem? (i := 23) (by decide +kernel), fun _ h => absurd h List.not_mem_nil⟩⟩⟩⟩⟩⟩⟩⟩⟩⟩⟩⟩⟩⟩⟩⟩⟩⟩⟩⟩⟩⟩⟩⟩
set_option maxRecDepth 20000 in
theorem in_wsL_law0_r11 : ∀ w ∈ wsL_law0_r11, w ∈ lw_tbl := List.forall_mem_cons.mpr ⟨List.mem_of_getElem? (i := 880) (by decide +kernel), List.forall_mem_cons.mpr ⟨List.mem_of_getElem? (i := 813) (by decide +kernel), List.forall_mem_cons.mpr ⟨List.mem_of_getElem? (i := 881) (by decide +kernel), List.forall_mem_cons.mpr ⟨List.mem_of_getElem? (i := 883) (by decide +kernel), List.forall_mem_cons.mpr ⟨List.mem_of_getElem? (i := 24) (by decide +kernel), List.forall_mem_cons.mpr ⟨List.mem_of_getElem? (i := 884) (by decide +kernel), List.forall_mem_cons.mpr ⟨List.mem_of_getElem? (i := 885) (by decide +kernel), List.forall_mem_cons.mpr ⟨List.mem_of_getElem? (i := 886) (by decide +kernel), List.forall_mem_cons.mpr ⟨List.mem_of_getElem? (i := 887) (by decide +kernel), List.forall_mem_cons.mpr ⟨List.mem_of_getElem? (i := 863) (by decide +kernel), List.forall_mem_cons.mpr ⟨List.mem_of_getElem? (i := 864) (by decide +kernel), List.forall_mem_cons.mpr ⟨List.mem_of_getElem? (i := 865) (by decide +kernel), List.forall_mem_cons.mpr ⟨List.mem_of_getElem? (i := 866) (by decide +kernel), List.forall_mem_cons.mpr ⟨List.mem_of_getElem? (i := 448) (by decide +kernel), List.forall_mem_cons.mpr ⟨List.mem_of_getElem? (i := 449) (by decide +kernel), List.forall_mem_cons.mpr ⟨List.mem_of_getElem? (i := 450) (by decide +kernel), List.forall_mem_cons.mpr ⟨List.mem_of_getElem? (i := 451) (by decide +kernel), List.forall_mem_cons.mpr ⟨List.mem_of_getElem? (i := 452) (by decide +kernel), List.forall_mem_cons.mpr ⟨List.mem_of_getElem? (i := 453) (by decide +kernel), List.forall_mem_cons.mpr ⟨List.mem_of_getElem? (i := 454) (by decide +kernel), List.forall_mem_cons.mpr ⟨List.mem_of_getElem? (i := 455) (by decide +kernel), List.forall_mem_cons.mpr ⟨List.mem_of_getElem? (i := 456) (by decide +kernel), List.forall_mem_cons.mpr ⟨List.mem_of_getElem? (i := 457) (by decide +kernel), List.forall_mem_cons.mpr ⟨List.mem_of_getElem? (i := 458) (by decide +kernel), fun _ h => absurd h List.not_mem_nil⟩⟩⟩⟩⟩⟩⟩⟩⟩⟩⟩⟩⟩⟩⟩⟩⟩⟩⟩⟩⟩⟩⟩⟩
set_option maxRecDepth 20000 in
theorem in_wsL_law0_r12 : ∀ w ∈ wsL_law0_r12, w ∈ lw_tbl := List.forall_mem_cons.mpr ⟨List.mem_of_getElem? (i := 463) (by decide +kernel), List.forall_mem_cons.mpr ⟨List.mem_of_getElem? (i := 67) (by decide +kernel), List.forall_mem_cons.mpr ⟨List.mem_of_getElem? (i := 459) (by decide +kernel), List.forall_mem_cons.mpr ⟨List.mem_of_getElem? (i := 460) (by decide +kernel), List.forall_mem_cons.mpr ⟨List.mem_of_getElem? (i := 461) (by decide +kernel), List.forall_mem_cons.mpr ⟨List.mem_of_getElem? (i := 462) (by decide +kernel), List.forall_mem_cons.mpr ⟨List.mem_of_getElem? (i := 181) (by decide +kernel), List.forall_mem_cons.mpr ⟨List.mem_of_getElem? (i := 888) (by decide +kernel), List.forall_mem_cons.mpr ⟨List.mem_of_getElem? (i := 889) (by decide +kernel), List.forall_mem_cons.mpr ⟨List.mem_of_getElem? (i := 890) (by decide +kernel), List.forall_mem_cons.mpr ⟨List.mem_of_getElem? (i := 891) (by decide +kernel), List.forall_mem_cons.mpr ⟨List.mem_of_getElem? (i := 892) (by decide +kernel), List.forall_mem_cons.mpr ⟨List.mem_of_getElem? (i := 894) (by decide +kernel), List.forall_mem_cons.mpr ⟨List.mem_of_getElem? (i := 25) (by decide +kernel), List.forall_mem_cons.mpr ⟨List.mem_of_getElem? (i := 895) (by decide +kernel), List.forall_mem_cons.mpr ⟨List.mem_of_getElem? (i := 896) (by decide +kernel), List.forall_mem_cons.mpr ⟨List.mem_of_getElem? (i := 898) (by decide +kernel), List.forall_mem_cons.mpr ⟨List.mem_of_getElem? (i := 26) (by decide +kernel), List.forall_mem_cons.mpr ⟨List.mem_of_getElem? (i := 899) (by decide +kernel), List.forall_mem_cons.mpr ⟨List.mem_of_getElem? (i := 479) (by decide +kernel), List.forall_mem_cons.mpr ⟨List.mem_of_getElem? (i := 480) (by decide +kernel), List.forall_mem_cons.mpr ⟨List.mem_of_getElem? (i := 481) (by decide +kernel), List.forall_mem_cons.mpr ⟨List.mem_of_getElem? (i := 482) (by decide +kernel), List.forall_mem_cons.mpr ⟨List.mem_of_getElem? (i := 483) (by decide +kernel), fun _ h => absurd h List.not_mem_nil⟩⟩⟩⟩⟩⟩⟩⟩⟩⟩⟩⟩⟩⟩⟩⟩⟩⟩⟩⟩⟩⟩⟩⟩
set_option maxRecDepth 20000 in
theorem in_wsL_law0_r13 : ∀ w ∈ wsL_law0_r13, w ∈ lw_tbl := List.forall_mem_cons.mpr ⟨List.mem_of_getElem? (i := 484) (by decide +kernel), List.forall_mem_cons.mpr ⟨List.mem_of_getElem? (i := 485) (by decide +kernel), List.forall_mem_cons.mpr ⟨List.mem_of_getElem? (i := 116) (by decide +kernel), List.forall_mem_cons.mpr ⟨List.mem_of_getElem? (i := 180) (by decide +kernel), List.forall_mem_cons.mpr ⟨List.mem_of_getElem? (i := 486) (by decide +kernel), List.forall_mem_cons.mpr ⟨List.mem_of_getElem? (i := 487) (by decide +kernel), List.forall_mem_cons.mpr ⟨List.mem_of_getElem? (i := 488) (by decide +kernel), List.forall_mem_cons.mpr ⟨List.mem_of_getElem? (i := 490) (by decide +kernel), List.forall_mem_cons.mpr ⟨List.mem_of_getElem? (i := 491) (by decide +kernel), List.forall_mem_cons.mpr ⟨List.mem_of_getElem? (i := 492) (by decide +kernel), List.forall_mem_cons.mpr ⟨List.mem_of_getElem? (i := 493) (by decide +kernel), List.forall_mem_cons.mpr ⟨List.mem_of_getElem? (i := 109) (by decide +kernel), List.forall_mem_cons.mpr ⟨List.mem_of_getElem? (i := 494) (by decide +kernel), List.forall_mem_cons.mpr ⟨List.mem_of_getElem? (i := 495) (by decide +kernel), List.forall_mem_cons.mpr ⟨List.mem_of_getElem? (i := 496) (by decide +kernel), List.forall_mem_cons.mpr ⟨List.mem_of_getElem? (i := 497) (by decide +kernel), List.forall_mem_cons.mpr ⟨List.mem_of_getElem? (i := 498) (by decide +kernel), List.forall_mem_cons.mpr ⟨List.mem_of_getElem? (i := 121) (by decide +kernel), List.forall_mem_cons.mpr ⟨List.mem_of_getElem? (i := 124) (by decide +kernel), List.forall_mem_cons.mpr ⟨List.mem_of_getElem? (i := 499) (by decide +kernel), List.forall_mem_cons.mpr ⟨List.mem_of_getElem? (i := 500) (by decide +kernel), List.forall_mem_cons.mpr ⟨List.mem_of_getElem? (i := 501) (by decide +kernel), List.forall_mem_cons.mpr ⟨List.mem_of_getElem? (i := 502) (by decide +kernel), List.forall_mem_cons.mpr ⟨List.mem_of_getElem? (i := 503) (by decide +kernel), fun _ h => absurd h List.not_mem_nil⟩⟩⟩⟩⟩⟩⟩⟩⟩⟩⟩⟩⟩⟩⟩⟩⟩⟩⟩⟩⟩⟩⟩⟩
set_option maxRecDepth 20000 in
theorem in_wsL_law0_r14 : ∀ w ∈ wsL_law0_r14, w ∈ lw_tbl := List.forall_mem_cons.mpr ⟨List.mem_of_getElem? (i := 183) (by decide +kernel), List.forall_mem_cons.mpr ⟨List.mem_of_getElem? (i := 190) (by decide +kernel), List.forall_mem_cons.mpr ⟨List.mem_of_getElem? (i := 191) (by decide +kernel), List.forall_mem_cons.mpr ⟨List.mem_of_getElem? (i := 128) (by decide +kernel), List.forall_mem_cons.mpr ⟨List.mem_of_getElem? (i := 192) (by decide +kernel), List.forall_mem_cons.mpr ⟨List.mem_of_getElem? (i := 900) (by decide +kernel), List.forall_mem_cons.mpr ⟨List.mem_of_getElem? (i := 901) (by decide +kernel), List.forall_mem_cons.mpr ⟨List.mem_of_getElem? (i := 902) (by decide +kernel), List.forall_mem_cons.mpr ⟨List.mem_of_getElem? (i := 903) (by decide +kernel), List.forall_mem_cons.mpr ⟨List.mem_of_getElem? (i := 904) (by decide +kernel), List.forall_mem_cons.mpr ⟨List.mem_of_getElem? (i := 905) (by decide +kernel), List.forall_mem_cons.mpr ⟨List.mem_of_getElem? (i := 906) (by decide +kernel), List.forall_mem_cons.mpr ⟨List.mem_of_getElem? (i := 907) (by decide +kernel), List.forall_mem_cons.mpr ⟨List.mem_of_getElem? (i := 909) (by decide +kernel), List.forall_mem_cons.mpr ⟨List.mem_of_getElem? (i := 27) (by decide +kernel), List.forall_mem_cons.mpr ⟨List.mem_of_getElem? (i := 910) (by decide +kernel), List.forall_mem_cons.mpr ⟨List.mem_of_getElem? (i := 911) (by decide +kernel), List.forall_mem_cons.mpr ⟨List.mem_of_getElem? (i := 912) (by decide +kernel), List.forall_mem_cons.mpr ⟨List.mem_of_getElem? (i := 913) (by decide +kernel), List.forall_mem_cons.mpr ⟨List.mem_of_getElem? (i := 914) (by decide +kernel), List.forall_mem_cons.mpr ⟨List.mem_of_getElem? (i := 916) (by decide +kernel), List.forall_mem_cons.mpr ⟨List.mem_of_getElem? (i := 28) (by decide +kernel), List.forall_mem_cons.mpr ⟨List.mem_of_getElem? (i := 917) (by decide +kernel), List.forall_mem_cons.mpr ⟨List.mem_of_getElem? (i := 504) (by decide +kernel), fun _ h => absurd h List.not_mem_nil⟩⟩⟩⟩⟩⟩⟩⟩⟩⟩⟩⟩⟩⟩⟩⟩⟩⟩⟩⟩⟩⟩⟩⟩
set_option maxRecDepth 20000 in
theorem in_wsL_law0_r15 : ∀ w ∈ wsL_law0_r15, w ∈ lw_tbl := List.forall_mem_cons.mpr ⟨List.mem_of_getElem? (i := 505) (by decide +kernel), List.forall_mem_cons.mpr ⟨List.mem_of_getElem? (i := 506) (by decide +kernel), List.forall_mem_cons.mpr ⟨List.mem_of_getElem? (i := 507) (by decide +kernel), List.forall_mem_cons.mpr ⟨List.mem_of_getElem? (i := 508) (by decide +kernel), List.forall_mem_cons.mpr ⟨List.mem_of_getElem? (i := 509) (by decide +kernel), List.forall_mem_cons.mpr ⟨List.mem_of_getElem? (i := 510) (by decide +kernel), List.forall_mem_cons.mpr ⟨List.mem_of_getElem? (i := 511) (by decide +kernel), List.forall_mem_cons.mpr ⟨List.mem_of_getElem? (i := 513) (by decide +kernel), List.forall_mem_cons.mpr ⟨List.mem_of_getElem? (i := 8) (by decide +kernel), List.forall_mem_cons.mpr ⟨List.mem_of_getElem? (i := 514) (by decide +kernel), List.forall_mem_cons.mpr ⟨List.mem_of_getElem? (i := 126) (by decide +kernel), List.forall_mem_cons.mpr ⟨List.mem_of_getElem? (i := 515) (by decide +kernel), List.forall_mem_cons.mpr ⟨List.mem_of_getElem? (i := 516) (by decide +kernel), List.forall_mem_cons.mpr ⟨List.mem_of_getElem? (i := 517) (by decide +kernel), List.forall_mem_cons.mpr ⟨List.mem_of_getElem? (i := 518) (by decide +kernel), List.forall_mem_cons.mpr ⟨List.mem_of_getElem? (i := 519) (by decide +kernel), List.forall_mem_cons.mpr ⟨List.mem_of_getElem? (i := 520) (by decide +kernel), List.forall_mem_cons.mpr ⟨List.mem_of_getElem? (i := 521) (by decide +kernel), List.forall_mem_cons.mpr ⟨List.mem_of_getElem? (i := 522) (by decide +kernel), List.forall_mem_cons.mpr ⟨List.mem_of_getElem? (i := 523) (by decide +kernel), List.forall_mem_cons.mpr ⟨List.mem_of_getElem? (i := 918) (by decide +kernel), List.forall_mem_cons.mpr ⟨List.mem_of_getElem? (i := 919) (by decide +kernel), List.forall_mem_cons.mpr ⟨List.mem_of_getElem? (i := 920) (by decide +kernel), List.forall_mem_cons.mpr ⟨List.mem_of_getElem? (i := 921) (by decide +kernel), fun _ h => absurd h List.not_mem_nil⟩⟩⟩⟩⟩⟩⟩⟩⟩⟩⟩⟩⟩⟩⟩⟩⟩⟩⟩⟩⟩⟩⟩⟩
set_option maxRecDepth 20000 in
theorem in_wsL_law0_r16 : ∀ w ∈ wsL_law0_r16, w ∈ lw_tbl := List.forall_mem_cons.mpr ⟨List.mem_of_getElem? (i := 922) (by decide +kernel), List.forall_mem_cons.mpr ⟨List.mem_of_getElem? (i := 924) (by decide +kernel), List.forall_mem_cons.mpr ⟨List.mem_of_getElem? (i := 29) (by decide +kernel), List.forall_mem_cons.mpr ⟨List.mem_of_getElem? (i := 925) (by decide +kernel), List.forall_mem_cons.mpr ⟨List.mem_of_getElem? (i := 926) (by decide +kernel), List.forall_mem_cons.mpr ⟨List.mem_of_getElem? (i := 928) (by decide +kernel), List.forall_mem_cons.mpr ⟨List.mem_of_getElem? (i := 30) (by decide +kernel), List.forall_mem_cons.mpr ⟨List.mem_of_getElem? (i := 929) (by decide +kernel), List.forall_mem_cons.mpr ⟨List.mem_of_getElem? (i := 524) (by decide +kernel), List.forall_mem_cons.mpr ⟨List.mem_of_getElem? (i := 525) (by decide +kernel), List.forall_mem_cons.mpr ⟨List.mem_of_getElem? (i := 526) (by decide +kernel), List.forall_mem_cons.mpr ⟨List.mem_of_getElem? (i := 527) (by decide +kernel), List.forall_mem_cons.mpr ⟨List.mem_of_getElem? (i := 528) (by decide +kernel), List.forall_mem_cons.mpr ⟨List.mem_of_getElem? (i := 529) (by decide +kernel), List.forall_mem_cons.mpr ⟨List.mem_of_getElem? (i := 530) (by decide +kernel), List.forall_mem_cons.mpr ⟨List.mem_of_getElem? (i := 185) (by decide +kernel), List.forall_mem_cons.mpr ⟨List.mem_of_getElem? (i := 930) (by decide +kernel), List.forall_mem_cons.mpr ⟨List.mem_of_getElem? (i := 931) (by decide +kernel), List.forall_mem_cons.mpr ⟨List.mem_of_getElem? (i := 932) (by decide +kernel), List.forall_mem_cons.mpr ⟨List.mem_of_getElem? (i := 933) (by decide +kernel), List.forall_mem_cons.mpr ⟨List.mem_of_getElem? (i := 934) (by decide +kernel), List.forall_mem_cons.mpr ⟨List.mem_of_getElem? (i := 936) (by decide +kernel), List.forall_mem_cons.mpr ⟨List.mem_of_getElem? (i := 31) (by decide +kernel), List.forall_mem_cons.mpr ⟨List.mem_of_getElem? (i := 937) (by decide +kernel), fun _ h => absurd h List.not_mem_nil⟩⟩⟩⟩⟩⟩⟩⟩⟩⟩⟩⟩⟩⟩⟩⟩⟩⟩⟩⟩⟩⟩⟩⟩
set_option maxRecDepth 20000 in
theorem in_wsL_law0_r17 : ∀ w ∈ wsL_law0_r17, w ∈ lw_tbl := List.forall_mem_cons.mpr ⟨List.mem_of_getElem? (i := 531) (by decide +kernel), List.forall_mem_cons.mpr ⟨List.mem_of_getElem? (i := 532) (by decide +kernel), List.forall_mem_cons.mpr ⟨List.mem_of_getElem? (i := 533) (by decide +kernel), List.forall_mem_cons.mpr ⟨List.mem_of_getElem? (i := 534) (by decide +kernel), List.forall_mem_cons.mpr ⟨List.mem_of_getElem? (i := 535) (by decide +kernel), List.forall_mem_cons.mpr ⟨List.mem_of_getElem? (i := 536) (by decide +kernel), List.forall_mem_cons.mpr ⟨List.mem_of_getElem? (i := 537) (by decide +kernel), List.forall_mem_cons.mpr ⟨List.mem_of_getElem? (i := 188) (by decide +kernel), List.forall_mem_cons.mpr ⟨List.mem_of_getElem? (i := 539) (by decide +kernel), List.forall_mem_cons.mpr ⟨List.mem_of_getElem? (i := 540) (by decide +kernel), List.forall_mem_cons.mpr ⟨List.mem_of_getElem? (i := 541) (by decide +kernel), List.forall_mem_cons.mpr ⟨List.mem_of_getElem? (i := 938) (by decide +kernel), List.forall_mem_cons.mpr ⟨List.mem_of_getElem? (i := 939) (by decide +kernel), List.forall_mem_cons.mpr ⟨List.mem_of_getElem? (i := 940) (by decide +kernel), List.forall_mem_cons.mpr ⟨List.mem_of_getElem? (i := 941) (by decide +kernel), List.forall_mem_cons.mpr ⟨List.mem_of_getElem? (i := 542) (by decide +kernel), List.forall_mem_cons.mpr ⟨List.mem_of_getElem? (i := 543) (by decide +kernel), List.forall_mem_cons.mpr ⟨List.mem_of_getElem? (i := 544) (by decide +kernel), List.forall_mem_cons.mpr ⟨List.mem_of_getElem? (i := 545) (by decide +kernel), List.forall_mem_cons.mpr ⟨List.mem_of_getElem? (i := 546) (by decide +kernel), List.forall_mem_cons.mpr ⟨List.mem_of_getElem? (i := 547) (by decide +kernel), List.forall_mem_cons.mpr ⟨List.mem_of_getElem? (i := 548) (by decide +kernel), List.forall_mem_cons.mpr ⟨List.mem_of_getElem? (i := 549) (by decide +kernel), List.forall_mem_cons.mpr ⟨List.mem_of_getElem? (i := 551) (by decide +kernel), fun _ h => absurd h List.not_mem_nil⟩⟩⟩⟩⟩⟩⟩⟩⟩⟩⟩⟩⟩⟩⟩⟩⟩⟩⟩⟩⟩⟩⟩⟩
set_option maxRecDepth 20000 in
theorem in_wsL_law0_r18 : ∀ w ∈ wsL_law0_r18, w ∈ lw_tbl := List.forall_mem_cons.mpr ⟨List.mem_of_getElem? (i := 9) (by decide +kernel), List.forall_mem_cons.mpr ⟨List.mem_of_getElem? (i := 552) (by decide +kernel), List.forall_mem_cons.mpr ⟨List.mem_of_getElem? (i := 553) (by decide +kernel), List.forall_mem_cons.mpr ⟨List.mem_of_getElem? (i := 554) (by decide +kernel), List.forall_mem_cons.mpr ⟨List.mem_of_getElem? (i := 555) (by decide +kernel), List.forall_mem_cons.mpr ⟨List.mem_of_getElem? (i := 556) (by decide +kernel), List.forall_mem_cons.mpr ⟨List.mem_of_getElem? (i := 557) (by decide +kernel), List.forall_mem_cons.mpr ⟨List.mem_of_getElem? (i := 558) (by decide +kernel), List.forall_mem_cons.mpr ⟨List.mem_of_getElem? (i := 559) (by decide +kernel), List.forall_mem_cons.mpr ⟨List.mem_of_getElem? (i := 560) (by decide +kernel), List.forall_mem_cons.mpr ⟨List.mem_of_getElem? (i := 561) (by decide +kernel), List.forall_mem_cons.mpr ⟨List.mem_of_getElem? (i := 563) (by decide +kernel), List.forall_mem_cons.mpr ⟨List.mem_of_getElem? (i := 10) (by decide +kernel), List.forall_mem_cons.mpr ⟨List.mem_of_getElem? (i := 564) (by decide +kernel), List.forall_mem_cons.mpr ⟨List.mem_of_getElem? (i := 942) (by decide +kernel), List.forall_mem_cons.mpr ⟨List.mem_of_getElem? (i := 943) (by decide +kernel), List.forall_mem_cons.mpr ⟨List.mem_of_getElem? (i := 944) (by decide +kernel), List.forall_mem_cons.mpr ⟨List.mem_of_getElem? (i := 945) (by decide +kernel), List.forall_mem_cons.mpr ⟨List.mem_of_getElem? (i := 946) (by decide +kernel), List.forall_mem_cons.mpr ⟨List.mem_of_getElem? (i := 948) (by decide +kernel), List.forall_mem_cons.mpr ⟨List.mem_of_getElem? (i := 32) (by decide +kernel), List.forall_mem_cons.mpr ⟨List.mem_of_getElem? (i := 949) (by decide +kernel), List.forall_mem_cons.mpr ⟨List.mem_of_getElem? (i := 950) (by decide +kernel), List.forall_mem_cons.mpr ⟨List.mem_of_getElem? (i := 952) (by decide +kernel), fun _ h => absurd h List.not_mem_nil⟩⟩⟩⟩⟩⟩⟩⟩⟩⟩⟩⟩⟩⟩⟩⟩⟩⟩⟩⟩⟩⟩⟩⟩
set_option maxRecDepth 20000 in
theorem in_wsL_law0_r19 : ∀ w ∈ wsL_law0_r19, w ∈ lw_tbl := List.forall_mem_cons.mpr ⟨List.mem_of_getElem? (i := 33) (by decide +kernel), List.forall_mem_cons.mpr ⟨List.mem_of_getElem? (i := 953) (by decide +kernel), List.forall_mem_cons.mpr ⟨List.mem_of_getElem? (i := 565) (by decide +kernel), List.forall_mem_cons.mpr ⟨List.mem_of_getElem? (i := 566) (by decide +kernel), List.forall_mem_cons.mpr ⟨List.mem_of_getElem? (i := 567) (by decide +kernel), List.forall_mem_cons.mpr ⟨List.mem_of_getElem? (i := 568) (by decide +kernel), List.forall_mem_cons.mpr ⟨List.mem_of_getElem? (i := 569) (by decide +kernel), List.forall_mem_cons.mpr ⟨List.mem_of_getElem? (i := 570) (by decide +kernel), List.forall_mem_cons.mpr ⟨List.mem_of_getElem? (i := 571) (by decide +kernel), List.forall_mem_cons.mpr ⟨List.mem_of_getElem? (i := 954) (by decide +kernel), List.forall_mem_cons.mpr ⟨List.mem_of_getElem? (i := 955) (by decide +kernel), List.forall_mem_cons.mpr ⟨List.mem_of_getElem? (i := 956) (by decide +kernel), List.forall_mem_cons.mpr ⟨List.mem_of_getElem? (i := 957) (by decide +kernel), List.forall_mem_cons.mpr ⟨List.mem_of_getElem? (i := 572) (by decide +kernel), List.forall_mem_cons.mpr ⟨List.mem_of_getElem? (i := 573) (by decide +kernel), List.forall_mem_cons.mpr ⟨List.mem_of_getElem? (i := 574) (by decide +kernel), List.forall_mem_cons.mpr ⟨List.mem_of_getElem? (i := 575) (by decide +kernel), List.forall_mem_cons.mpr ⟨List.mem_of_getElem? (i := 576) (by decide +kernel), List.forall_mem_cons.mpr ⟨List.mem_of_getElem? (i := 577) (by decide +kernel), List.forall_mem_cons.mpr ⟨List.mem_of_getElem? (i := 578) (by decide +kernel), List.forall_mem_cons.mpr ⟨List.mem_of_getElem? (i := 958) (by decide +kernel), List.forall_mem_cons.mpr ⟨List.mem_of_getElem? (i := 959) (by decide +kernel), List.forall_mem_cons.mpr ⟨List.mem_of_getElem? (i := 960) (by decide +kernel), List.forall_mem_cons.mpr ⟨List.mem_of_getElem? (i := 961) (by decide +kernel), fun _ h => absurd h List.not_mem_nil⟩⟩⟩⟩⟩⟩⟩⟩⟩⟩⟩⟩⟩⟩⟩⟩⟩⟩⟩⟩⟩⟩⟩⟩
set_option maxRecDepth 20000 in
theorem in_wsL_law0_r20 : ∀ w ∈ wsL_law0_r20, w ∈ lw_tbl := List.forall_mem_cons.mpr ⟨List.mem_of_getElem? (i := 579) (by decide +kernel), List.forall_mem_cons.mpr ⟨List.mem_of_getElem? (i := 580) (by decide +kernel), List.forall_mem_cons.mpr ⟨List.mem_of_getElem? (i := 581) (by decide +kernel), List.forall_mem_cons.mpr ⟨List.mem_of_getElem? (i := 582) (by decide +kernel), List.forall_mem_cons.mpr ⟨List.mem_of_getElem? (i := 583) (by decide +kernel), List.forall_mem_cons.mpr ⟨List.mem_of_getElem? (i := 584) (by decide +kernel), List.forall_mem_cons.mpr ⟨List.mem_of_getElem? (i := 585) (by decide +kernel), List.forall_mem_cons.mpr ⟨List.mem_of_getElem? (i := 586) (by decide +kernel), List.forall_mem_cons.mpr ⟨List.mem_of_getElem? (i := 587) (by decide +kernel), List.forall_mem_cons.mpr ⟨List.mem_of_getElem? (i := 588) (by decide +kernel), List.forall_mem_cons.mpr ⟨List.mem_of_getElem? (i := 589) (by decide +kernel), List.forall_mem_cons.mpr ⟨List.mem_of_getElem? (i := 590) (by decide +kernel), List.forall_mem_cons.mpr ⟨List.mem_of_getElem? (i := 591) (by decide +kernel), List.forall_mem_cons.mpr ⟨List.mem_of_getElem? (i := 592) (by decide +kernel), List.forall_mem_cons.mpr ⟨List.mem_of_getElem? (i := 962) (by decide +kernel), List.forall_mem_cons.mpr ⟨List.mem_of_getElem? (i := 963) (by decide +kernel), List.forall_mem_cons.mpr ⟨List.mem_of_getElem? (i := 964) (by decide +kernel), List.forall_mem_cons.mpr ⟨List.mem_of_getElem? (i := 965) (by decide +kernel), List.forall_mem_cons.mpr ⟨List.mem_of_getElem? (i := 966) (by decide +kernel), List.forall_mem_cons.mpr ⟨List.mem_of_getElem? (i := 968) (by decide +kernel), List.forall_mem_cons.mpr ⟨List.mem_of_getElem? (i := 34) (by decide +kernel), List.forall_mem_cons.mpr ⟨List.mem_of_getElem? (i := 969) (by decide +kernel), List.forall_mem_cons.mpr ⟨List.mem_of_getElem? (i := 593) (by decide +kernel), List.forall_mem_cons.mpr ⟨List.mem_of_getElem? (i := 594) (by decide +kernel), fun _ h => absurd h List.not_mem_nil⟩⟩⟩⟩⟩⟩⟩⟩⟩⟩⟩⟩⟩⟩⟩⟩⟩⟩⟩⟩⟩⟩⟩⟩
set_option maxRecDepth 20000 in
theorem in_wsL_law0_r21 : ∀ w ∈ wsL_law0_r21, w ∈ lw_tbl := List.forall_mem_cons.mpr ⟨List.mem_of_getElem? (i := 595) (by decide +kernel), List.forall_mem_cons.mpr ⟨List.mem_of_getElem? (i := 596) (by decide +kernel), List.forall_mem_cons.mpr ⟨List.mem_of_getElem? (i := 597) (by decide +kernel), List.forall_mem_cons.mpr ⟨List.mem_of_getElem? (i := 598) (by decide +kernel), List.forall_mem_cons.mpr ⟨List.mem_of_getElem? (i := 599) (by decide +kernel), List.forall_mem_cons.mpr ⟨List.mem_of_getElem? (i := 600) (by decide +kernel), List.forall_mem_cons.mpr ⟨List.mem_of_getElem? (i := 601) (by decide +kernel), List.forall_mem_cons.mpr ⟨List.mem_of_getElem? (i := 602) (by decide +kernel), List.forall_mem_cons.mpr ⟨List.mem_of_getElem? (i := 603) (by decide +kernel), List.forall_mem_cons.mpr ⟨List.mem_of_getElem? (i := 604) (by decide +kernel), List.forall_mem_cons.mpr ⟨List.mem_of_getElem? (i := 605) (by decide +kernel), List.forall_mem_cons.mpr ⟨List.mem_of_getElem? (i := 606) (by decide +kernel), List.forall_mem_cons.mpr ⟨List.mem_of_getElem? (i := 607) (by decide +kernel), List.forall_mem_cons.mpr ⟨List.mem_of_getElem? (i := 970) (by decide +kernel), List.forall_mem_cons.mpr ⟨List.mem_of_getElem? (i := 971) (by decide +kernel), List.forall_mem_cons.mpr ⟨List.mem_of_getElem? (i := 972) (by decide +kernel), List.forall_mem_cons.mpr ⟨List.mem_of_getElem? (i := 973) (by decide +kernel), List.forall_mem_cons.mpr ⟨List.mem_of_getElem? (i := 974) (by decide +kernel), List.forall_mem_cons.mpr ⟨List.mem_of_getElem? (i := 976) (by decide +kernel), List.forall_mem_cons.mpr ⟨List.mem_of_getElem? (i := 35) (by decide +kernel), List.forall_mem_cons.mpr ⟨List.mem_of_getElem? (i := 977) (by decide +kernel), List.forall_mem_cons.mpr ⟨List.mem_of_getElem? (i := 608) (by decide +kernel), List.forall_mem_cons.mpr ⟨List.mem_of_getElem? (i := 609) (by decide +kernel), List.forall_mem_cons.mpr ⟨List.mem_of_getElem? (i := 610) (by decide +kernel), fun _ h => absurd h List.not_mem_nil⟩⟩⟩⟩⟩⟩⟩⟩⟩⟩⟩⟩⟩⟩⟩⟩⟩⟩⟩⟩⟩⟩⟩⟩
set_option maxRecDepth 20000 in
theorem in_wsL_law0_r22 : ∀ w ∈ wsL_law0_r22, w ∈ lw_tbl := List.forall_mem_cons.mpr ⟨List.mem_of_getElem? (i := 611) (by decide +kernel), List.forall_mem_cons.mpr ⟨List.mem_of_getElem? (i := 612) (by decide +kernel), List.forall_mem_cons.mpr ⟨List.mem_of_getElem? (i := 613) (by decide +kernel), List.forall_mem_cons.mpr ⟨List.mem_of_getElem? (i := 614) (by decide +kernel), List.forall_mem_cons.mpr ⟨List.mem_of_getElem? (i := 620) (by decide +kernel), List.forall_mem_cons.mpr ⟨List.mem_of_getElem? (i := 621) (by decide +kernel), List.forall_mem_cons.mpr ⟨List.mem_of_getElem? (i := 68) (by decide +kernel), List.forall_mem_cons.mpr ⟨List.mem_of_getElem? (i := 153) (by decide +kernel), List.forall_mem_cons.mpr ⟨List.mem_of_getElem? (i := 615) (by decide +kernel), List.forall_mem_cons.mpr ⟨List.mem_of_getElem? (i := 616) (by decide +kernel), List.forall_mem_cons.mpr ⟨List.mem_of_getElem? (i := 617) (by decide +kernel), List.forall_mem_cons.mpr ⟨List.mem_of_getElem? (i := 618) (by decide +kernel), List.forall_mem_cons.mpr ⟨List.mem_of_getElem? (i := 152) (by decide +kernel), List.forall_mem_cons.mpr ⟨List.mem_of_getElem? (i := 622) (by decide +kernel), List.forall_mem_cons.mpr ⟨List.mem_of_getElem? (i := 623) (by decide +kernel), List.forall_mem_cons.mpr ⟨List.mem_of_getElem? (i := 624) (by decide +kernel), List.forall_mem_cons.mpr ⟨List.mem_of_getElem? (i := 625) (by decide +kernel), List.forall_mem_cons.mpr ⟨List.mem_of_getElem? (i := 626) (by decide +kernel), List.forall_mem_cons.mpr ⟨List.mem_of_getElem? (i := 627) (by decide +kernel), List.forall_mem_cons.mpr ⟨List.mem_of_getElem? (i := 628) (by decide +kernel), List.forall_mem_cons.mpr ⟨List.mem_of_getElem? (i := 629) (by decide +kernel), List.forall_mem_cons.mpr ⟨List.mem_of_getElem? (i := 639) (by decide +kernel), List.forall_mem_cons.mpr ⟨List.mem_of_getElem? (i := 640) (by decide +kernel), List.forall_mem_cons.mpr ⟨List.mem_of_getElem? (i := 641) (by decide +kernel), fun _ h => absurd h List.not_mem_nil⟩⟩⟩⟩⟩⟩⟩⟩⟩⟩⟩⟩⟩⟩⟩⟩⟩⟩⟩⟩⟩⟩⟩⟩
set_option maxRecDepth 20000 in
theorem in_wsL_law0_r23 : ∀ w ∈ wsL_law0_r23, w ∈ lw_tbl := List.forall_mem_cons.mpr ⟨List.mem_of_getElem? (i := 642) (by decide +kernel), List.forall_mem_cons.mpr ⟨List.mem_of_getElem? (i := 643) (by decide +kernel), List.forall_mem_cons.mpr ⟨List.mem_of_getElem? (i := 645) (by decide +kernel), List.forall_mem_cons.mpr ⟨List.mem_of_getElem? (i := 11) (by decide +kernel), List.forall_mem_cons.mpr ⟨List.mem_of_getElem? (i := 646) (by decide +kernel), List.forall_mem_cons.mpr ⟨List.mem_of_getElem? (i := 647) (by decide +kernel), List.forall_mem_cons.mpr ⟨List.mem_of_getElem? (i := 648) (by decide +kernel), List.forall_mem_cons.mpr ⟨List.mem_of_getElem? (i := 649) (by decide +kernel), List.forall_mem_cons.mpr ⟨List.mem_of_getElem? (i := 651) (by decide +kernel), List.forall_mem_cons.mpr ⟨List.mem_of_getElem? (i := 12) (by decide +kernel), List.forall_mem_cons.mpr ⟨List.mem_of_getElem? (i := 652) (by decide +kernel), List.forall_mem_cons.mpr ⟨List.mem_of_getElem? (i := 653) (by decide +kernel), List.forall_mem_cons.mpr ⟨List.mem_of_getElem? (i := 654) (by decide +kernel), List.forall_mem_cons.mpr ⟨List.mem_of_getElem? (i := 655) (by decide +kernel), List.forall_mem_cons.mpr ⟨List.mem_of_getElem? (i := 656) (by decide +kernel), List.forall_mem_cons.mpr ⟨List.mem_of_getElem? (i := 657) (by decide +kernel), List.forall_mem_cons.mpr ⟨List.mem_of_getElem? (i := 119) (by decide +kernel), List.forall_mem_cons.mpr ⟨List.mem_of_getElem? (i := 658) (by decide +kernel), List.forall_mem_cons.mpr ⟨List.mem_of_getElem? (i := 659) (by decide +kernel), List.forall_mem_cons.mpr ⟨List.mem_of_getElem? (i := 660) (by decide +kernel), List.forall_mem_cons.mpr ⟨List.mem_of_getElem? (i := 661) (by decide +kernel), List.forall_mem_cons.mpr ⟨List.mem_of_getElem? (i := 662) (by decide +kernel), List.forall_mem_cons.mpr ⟨List.mem_of_getElem? (i := 663) (by decide +kernel), List.forall_mem_cons.mpr ⟨List.mem_of_getElem? (i := 665) (by decide +kernel), fun _ h => absurd h List.not_mem_nil⟩⟩⟩⟩⟩⟩⟩⟩⟩⟩⟩⟩⟩⟩⟩⟩⟩⟩⟩⟩⟩⟩⟩⟩
set_option maxRecDepth 20000 in
theorem in_wsL_law0_r24 : ∀ w ∈ wsL_law0_r24, w ∈ lw_tbl := List.forall_mem_cons.mpr ⟨List.mem_of_getElem? (i := 13) (by decide +kernel), List.forall_mem_cons.mpr ⟨List.mem_of_getElem? (i := 666) (by decide +kernel), List.forall_mem_cons.mpr ⟨List.mem_of_getElem? (i := 667) (by decide +kernel), List.forall_mem_cons.mpr ⟨List.mem_of_getElem? (i := 669) (by decide +kernel), List.forall_mem_cons.mpr ⟨List.mem_of_getElem? (i := 14) (by decide +kernel), List.forall_mem_cons.mpr ⟨List.mem_of_getElem? (i := 670) (by decide +kernel), List.forall_mem_cons.mpr ⟨List.mem_of_getElem? (i := 189) (by decide +kernel), List.forall_mem_cons.mpr ⟨List.mem_of_getElem? (i := 125) (by decide +kernel), List.forall_mem_cons.mpr ⟨List.mem_of_getElem? (i := 671) (by decide +kernel), List.forall_mem_cons.mpr ⟨List.mem_of_getElem? (i := 672) (by decide +kernel), List.forall_mem_cons.mpr ⟨List.mem_of_getElem? (i := 673) (by decide +kernel), List.forall_mem_cons.mpr ⟨List.mem_of_getElem? (i := 674) (by decide +kernel), List.forall_mem_cons.mpr ⟨List.mem_of_getElem? (i := 675) (by decide +kernel), List.forall_mem_cons.mpr ⟨List.mem_of_getElem? (i := 676) (by decide +kernel), List.forall_mem_cons.mpr ⟨List.mem_of_getElem? (i := 678) (by decide +kernel), List.forall_mem_cons.mpr ⟨List.mem_of_getElem? (i := 15) (by decide +kernel), List.forall_mem_cons.mpr ⟨List.mem_of_getElem? (i := 679) (by decide +kernel), List.forall_mem_cons.mpr ⟨List.mem_of_getElem? (i := 182) (by decide +kernel), List.forall_mem_cons.mpr ⟨List.mem_of_getElem? (i := 118) (by decide +kernel), List.forall_mem_cons.mpr ⟨List.mem_of_getElem? (i := 682) (by decide +kernel), List.forall_mem_cons.mpr ⟨List.mem_of_getElem? (i := 683) (by decide +kernel), List.forall_mem_cons.mpr ⟨List.mem_of_getElem? (i := 684) (by decide +kernel), List.forall_mem_cons.mpr ⟨List.mem_of_getElem? (i := 685) (by decide +kernel), List.forall_mem_cons.mpr ⟨List.mem_of_getElem? (i := 686) (by decide +kernel), fun _ h => absurd h List.not_mem_nil⟩⟩⟩⟩⟩⟩⟩⟩⟩⟩⟩⟩⟩⟩⟩⟩⟩⟩⟩⟩⟩⟩⟩⟩
set_option maxRecDepth 20000 in
theorem in_wsL_law0_r25 : ∀ w ∈ wsL_law0_r25, w ∈ lw_tbl := List.forall_mem_cons.mpr ⟨List.mem_of_getElem? (i := 688) (by decide +kernel), List.forall_mem_cons.mpr ⟨List.mem_of_getElem? (i := 16) (by decide +kernel), List.forall_mem_cons.mpr ⟨List.mem_of_getElem? (i := 689) (by decide +kernel), List.forall_mem_cons.mpr ⟨List.mem_of_getElem? (i := 690) (by decide +kernel), List.forall_mem_cons.mpr ⟨List.mem_of_getElem? (i := 692) (by decide +kernel), List.forall_mem_cons.mpr ⟨List.mem_of_getElem? (i := 17) (by decide +kernel), List.forall_mem_cons.mpr ⟨List.mem_of_getElem? (i := 693) (by decide +kernel), List.forall_mem_cons.mpr ⟨List.mem_of_getElem? (i := 186) (by decide +kernel), List.forall_mem_cons.mpr ⟨List.mem_of_getElem? (i := 694) (by decide +kernel), List.forall_mem_cons.mpr ⟨List.mem_of_getElem? (i := 695) (by decide +kernel), List.forall_mem_cons.mpr ⟨List.mem_of_getElem? (i := 696) (by decide +kernel), List.forall_mem_cons.mpr ⟨List.mem_of_getElem? (i := 697) (by decide +kernel), List.forall_mem_cons.mpr ⟨List.mem_of_getElem? (i := 115) (by decide +kernel), List.forall_mem_cons.mpr ⟨List.mem_of_getElem? (i := 120) (by decide +kernel), List.forall_mem_cons.mpr ⟨List.mem_of_getElem? (i := 127) (by decide +kernel), List.forall_mem_cons.mpr ⟨List.mem_of_getElem? (i := 698) (by decide +kernel), List.forall_mem_cons.mpr ⟨List.mem_of_getElem? (i := 699) (by decide +kernel), List.forall_mem_cons.mpr ⟨List.mem_of_getElem? (i := 700) (by decide +kernel), List.forall_mem_cons.mpr ⟨List.mem_of_getElem? (i := 701) (by decide +kernel), List.forall_mem_cons.mpr ⟨List.mem_of_getElem? (i := 702) (by decide +kernel), List.forall_mem_cons.mpr ⟨List.mem_of_getElem? (i := 703) (by decide +kernel), List.forall_mem_cons.mpr ⟨List.mem_of_getElem? (i := 704) (by decide +kernel), List.forall_mem_cons.mpr ⟨List.mem_of_getElem? (i := 705) (by decide +kernel), List.forall_mem_cons.mpr ⟨List.mem_of_getElem? (i := 706) (by decide +kernel), fun _ h => absurd h List.not_mem_nil⟩⟩⟩⟩⟩⟩⟩⟩⟩⟩⟩⟩⟩⟩⟩⟩⟩⟩⟩⟩⟩⟩⟩⟩
set_option maxRecDepth 20000 in
theorem in_wsL_law0_r26 : ∀ w ∈ wsL_law0_r26, w ∈ lw_tbl := List.forall_mem_cons.mpr ⟨List.mem_of_getElem? (i := 707) (by decide +kernel), List.forall_mem_cons.mpr ⟨List.mem_of_getElem? (i := 708) (by decide +kernel), List.forall_mem_cons.mpr ⟨List.mem_of_getElem? (i := 709) (by decide +kernel), List.forall_mem_cons.mpr ⟨List.mem_of_getElem? (i := 711) (by decide +kernel), List.forall_mem_cons.mpr ⟨List.mem_of_getElem? (i := 712) (by decide +kernel), List.forall_mem_cons.mpr ⟨List.mem_of_getElem? (i := 713) (by decide +kernel), List.forall_mem_cons.mpr ⟨List.mem_of_getElem? (i := 715) (by decide +kernel), List.forall_mem_cons.mpr ⟨List.mem_of_getElem? (i := 18) (by decide +kernel), List.forall_mem_cons.mpr ⟨List.mem_of_getElem? (i := 716) (by decide +kernel), List.forall_mem_cons.mpr ⟨List.mem_of_getElem? (i := 717) (by decide +kernel), List.forall_mem_cons.mpr ⟨List.mem_of_getElem? (i := 719) (by decide +kernel), List.forall_mem_cons.mpr ⟨List.mem_of_getElem? (i := 19) (by decide +kernel), List.forall_mem_cons.mpr ⟨List.mem_of_getElem? (i := 720) (by decide +kernel), List.forall_mem_cons.mpr ⟨List.mem_of_getElem? (i := 721) (by decide +kernel), List.forall_mem_cons.mpr ⟨List.mem_of_getElem? (i := 722) (by decide +kernel), List.forall_mem_cons.mpr ⟨List.mem_of_getElem? (i := 723) (by decide +kernel), List.forall_mem_cons.mpr ⟨List.mem_of_getElem? (i := 724) (by decide +kernel), List.forall_mem_cons.mpr ⟨List.mem_of_getElem? (i := 725) (by decide +kernel), List.forall_mem_cons.mpr ⟨List.mem_of_getElem? (i := 727) (by decide +kernel), List.forall_mem_cons.mpr ⟨List.mem_of_getElem? (i := 20) (by decide +kernel), List.forall_mem_cons.mpr ⟨List.mem_of_getElem? (i := 728) (by decide +kernel), List.forall_mem_cons.mpr ⟨List.mem_of_getElem? (i := 729) (by decide +kernel), List.forall_mem_cons.mpr ⟨List.mem_of_getElem? (i := 978) (by decide +kernel), List.forall_mem_cons.mpr ⟨List.mem_of_getElem? (i := 979) (by decide +kernel), fun _ h => absurd h List.not_mem_nil⟩⟩⟩⟩⟩⟩⟩⟩⟩⟩⟩⟩⟩⟩⟩⟩⟩⟩⟩⟩⟩⟩⟩⟩
set_option maxRecDepth 20000 in
theorem in_wsL_law0_r27 : ∀ w ∈ wsL_law0_r27, w ∈ lw_tbl := List.forall_mem_cons.mpr ⟨List.mem_of_getElem? (i := 980) (by decide +kernel), List.forall_mem_cons.mpr ⟨List.mem_of_getElem? (i := 981) (by decide +kernel), List.forall_mem_cons.mpr ⟨List.mem_of_getElem? (i := 827) (by decide +kernel), List.forall_mem_cons.mpr ⟨List.mem_of_getElem? (i := 982) (by decide +kernel), List.forall_mem_cons.mpr ⟨List.mem_of_getElem? (i := 984) (by decide +kernel), List.forall_mem_cons.mpr ⟨List.mem_of_getElem? (i := 36) (by decide +kernel), List.forall_mem_cons.mpr ⟨List.mem_of_getElem? (i := 985) (by decide +kernel), List.forall_mem_cons.mpr ⟨List.mem_of_getElem? (i := 986) (by decide +kernel), List.forall_mem_cons.mpr ⟨List.mem_of_getElem? (i := 988) (by decide +kernel), List.forall_mem_cons.mpr ⟨List.mem_of_getElem? (i := 37) (by decide +kernel), List.forall_mem_cons.mpr ⟨List.mem_of_getElem? (i := 989) (by decide +kernel), List.forall_mem_cons.mpr ⟨List.mem_of_getElem? (i := 990) (by decide +kernel), List.forall_mem_cons.mpr ⟨List.mem_of_getElem? (i := 992) (by decide +kernel), List.forall_mem_cons.mpr ⟨List.mem_of_getElem? (i := 38) (by decide +kernel), List.forall_mem_cons.mpr ⟨List.mem_of_getElem? (i := 993) (by decide +kernel), List.forall_mem_cons.mpr ⟨List.mem_of_getElem? (i := 994) (by decide +kernel), List.forall_mem_cons.mpr ⟨List.mem_of_getElem? (i := 996) (by decide +kernel), List.forall_mem_cons.mpr ⟨List.mem_of_getElem? (i := 39) (by decide +kernel), List.forall_mem_cons.mpr ⟨List.mem_of_getElem? (i := 997) (by decide +kernel), List.forall_mem_cons.mpr ⟨List.mem_of_getElem? (i := 998) (by decide +kernel), List.forall_mem_cons.mpr ⟨List.mem_of_getElem? (i := 1000) (by decide +kernel), List.forall_mem_cons.mpr ⟨List.mem_of_getElem? (i := 40) (by decide +kernel), List.forall_mem_cons.mpr ⟨List.mem_of_getElem? (i := 1001) (by decide +kernel), List.forall_mem_cons.mpr ⟨List.mem_of_getElem? (i := 1002) (by decide +kernel), fun _ h => absurd h List.not_mem_nil⟩⟩⟩⟩⟩⟩⟩⟩⟩⟩⟩⟩⟩⟩⟩⟩⟩⟩⟩⟩⟩⟩⟩⟩
set_option maxRecDepth 20000 in
theorem in_wsL_law0_r28 : ∀ w ∈ wsL_law0_r28, w ∈ lw_tbl := List.forall_mem_cons.mpr ⟨List.mem_of_getElem? (i := 1004) (by decide +kernel), List.forall_mem_cons.mpr ⟨List.mem_of_getElem? (i := 41) (by decide +kernel), List.forall_mem_cons.mpr ⟨List.mem_of_getElem? (i := 1005) (by decide +kernel), List.forall_mem_cons.mpr ⟨List.mem_of_getElem? (i := 1006) (by decide +kernel), List.forall_mem_cons.mpr ⟨List.mem_of_getElem? (i := 1008) (by decide +kernel), List.forall_mem_cons.mpr ⟨List.mem_of_getElem? (i := 42) (by decide +kernel), List.forall_mem_cons.mpr ⟨List.mem_of_getElem? (i := 1009) (by decide +kernel), List.forall_mem_cons.mpr ⟨List.mem_of_getElem? (i := 730) (by decide +kernel), List.forall_mem_cons.mpr ⟨List.mem_of_getElem? (i := 731) (by decide +kernel), List.forall_mem_cons.mpr ⟨List.mem_of_getElem? (i := 732) (by decide +kernel), List.forall_mem_cons.mpr ⟨List.mem_of_getElem? (i := 733) (by decide +kernel), List.forall_mem_cons.mpr ⟨List.mem_of_getElem? (i := 734) (by decide +kernel), List.forall_mem_cons.mpr ⟨List.mem_of_getElem? (i := 735) (by decide +kernel), List.forall_mem_cons.mpr ⟨List.mem_of_getElem? (i := 736) (by decide +kernel), List.forall_mem_cons.mpr ⟨List.mem_of_getElem? (i := 737) (by decide +kernel), List.forall_mem_cons.mpr ⟨List.mem_of_getElem? (i := 738) (by decide +kernel), List.forall_mem_cons.mpr ⟨List.mem_of_getElem? (i := 739) (by decide +kernel), List.forall_mem_cons.mpr ⟨List.mem_of_getElem? (i := 740) (by decide +kernel), List.forall_mem_cons.mpr ⟨List.mem_of_getElem? (i := 741) (by decide +kernel), List.forall_mem_cons.mpr ⟨List.mem_of_getElem? (i := 1010) (by decide +kernel), List.forall_mem_cons.mpr ⟨List.mem_of_getElem? (i := 1011) (by decide +kernel), List.forall_mem_cons.mpr ⟨List.mem_of_getElem? (i := 1012) (by decide +kernel), List.forall_mem_cons.mpr ⟨List.mem_of_getElem? (i := 1013) (by decide +kernel), List.forall_mem_cons.mpr ⟨List.mem_of_getElem? (i := 742) (by decide +kernel), fun _ h => absurd h List.not_mem_nil⟩⟩⟩⟩⟩⟩⟩⟩⟩⟩⟩⟩⟩⟩⟩⟩⟩⟩⟩⟩⟩⟩⟩⟩
set_option maxRecDepth 20000 in
theorem in_wsL_law0_r29 : ∀ w ∈ wsL_law0_r29, w ∈ lw_tbl := List.forall_mem_cons.mpr ⟨List.mem_of_getElem? (i := 743) (by decide +kernel), List.forall_mem_cons.mpr ⟨List.mem_of_getElem? (i := 744) (by decide +kernel), List.forall_mem_cons.mpr ⟨List.mem_of_getElem? (i := 745) (by decide +kernel), List.forall_mem_cons.mpr ⟨List.mem_of_getElem? (i := 746) (by decide +kernel), List.forall_mem_cons.mpr ⟨List.mem_of_getElem? (i := 747) (by decide +kernel), List.forall_mem_cons.mpr ⟨List.mem_of_getElem? (i := 748) (by decide +kernel), List.forall_mem_cons.mpr ⟨List.mem_of_getElem? (i := 749) (by decide +kernel), List.forall_mem_cons.mpr ⟨List.mem_of_getElem? (i := 750) (by decide +kernel), List.forall_mem_cons.mpr ⟨List.mem_of_getElem? (i := 751) (by decide +kernel), List.forall_mem_cons.mpr ⟨List.mem_of_getElem? (i := 752) (by decide +kernel), List.forall_mem_cons.mpr ⟨List.mem_of_getElem? (i := 117) (by decide +kernel), List.forall_mem_cons.mpr ⟨List.mem_of_getElem? (i := 753) (by decide +kernel), List.forall_mem_cons.mpr ⟨List.mem_of_getElem? (i := 1014) (by decide +kernel), List.forall_mem_cons.mpr ⟨List.mem_of_getElem? (i := 1015) (by decide +kernel), List.forall_mem_cons.mpr ⟨List.mem_of_getElem? (i := 1016) (by decide +kernel), List.forall_mem_cons.mpr ⟨List.mem_of_getElem? (i := 1017) (by decide +kernel), List.forall_mem_cons.mpr ⟨List.mem_of_getElem? (i := 754) (by decide +kernel), List.forall_mem_cons.mpr ⟨List.mem_of_getElem? (i := 755) (by decide +kernel), List.forall_mem_cons.mpr ⟨List.mem_of_getElem? (i := 756) (by decide +kernel), List.forall_mem_cons.mpr ⟨List.mem_of_getElem? (i := 757) (by decide +kernel), List.forall_mem_cons.mpr ⟨List.mem_of_getElem? (i := 758) (by decide +kernel), List.forall_mem_cons.mpr ⟨List.mem_of_getElem? (i := 759) (by decide +kernel), List.forall_mem_cons.mpr ⟨List.mem_of_getElem? (i := 760) (by decide +kernel), List.forall_mem_cons.mpr ⟨List.mem_of_getElem? (i := 122) (by decide +kernel), fun _ h => absurd h List.not_mem_nil⟩⟩⟩⟩⟩⟩⟩⟩⟩⟩⟩⟩⟩⟩⟩⟩⟩⟩⟩⟩⟩⟩⟩⟩
set_option maxRecDepth 20000 in
theorem in_wsL_law0_r30 : ∀ w ∈ wsL_law0_r30, w ∈ lw_tbl := List.forall_mem_cons.mpr ⟨List.mem_of_getElem? (i := 761) (by decide +kernel), List.forall_mem_cons.mpr ⟨List.mem_of_getElem? (i := 763) (by decide +kernel), List.forall_mem_cons.mpr ⟨List.mem_of_getElem? (i := 21) (by decide +kernel), List.forall_mem_cons.mpr ⟨List.mem_of_getElem? (i := 764) (by decide +kernel), List.forall_mem_cons.mpr ⟨List.mem_of_getElem? (i := 1018) (by decide +kernel), List.forall_mem_cons.mpr ⟨List.mem_of_getElem? (i := 1019) (by decide +kernel), List.forall_mem_cons.mpr ⟨List.mem_of_getElem? (i := 1020) (by decide +kernel), List.forall_mem_cons.mpr ⟨List.mem_of_getElem? (i := 1021) (by decide +kernel), List.forall_mem_cons.mpr ⟨List.mem_of_getElem? (i := 1022) (by decide +kernel), List.forall_mem_cons.mpr ⟨List.mem_of_getElem? (i := 1024) (by decide +kernel), List.forall_mem_cons.mpr ⟨List.mem_of_getElem? (i := 43) (by decide +kernel), List.forall_mem_cons.mpr ⟨List.mem_of_getElem? (i := 1025) (by decide +kernel), List.forall_mem_cons.mpr ⟨List.mem_of_getElem? (i := 766) (by decide +kernel), List.forall_mem_cons.mpr ⟨List.mem_of_getElem? (i := 767) (by decide +kernel), List.forall_mem_cons.mpr ⟨List.mem_of_getElem? (i := 768) (by decide +kernel), List.forall_mem_cons.mpr ⟨List.mem_of_getElem? (i := 769) (by decide +kernel), List.forall_mem_cons.mpr ⟨List.mem_of_getElem? (i := 770) (by decide +kernel), List.forall_mem_cons.mpr ⟨List.mem_of_getElem? (i := 771) (by decide +kernel), List.forall_mem_cons.mpr ⟨List.mem_of_getElem? (i := 772) (by decide +kernel), List.forall_mem_cons.mpr ⟨List.mem_of_getElem? (i := 1026) (by decide +kernel), List.forall_mem_cons.mpr ⟨List.mem_of_getElem? (i := 1027) (by decide +kernel), List.forall_mem_cons.mpr ⟨List.mem_of_getElem? (i := 1028) (by decide +kernel), List.forall_mem_cons.mpr ⟨List.mem_of_getElem? (i := 1029) (by decide +kernel), List.forall_mem_cons.mpr ⟨List.mem_of_getElem? (i := 773) (by decide +kernel), fun _ h => absurd h List.not_mem_nil⟩⟩⟩⟩⟩⟩⟩⟩⟩⟩⟩⟩⟩⟩⟩⟩⟩⟩⟩⟩⟩⟩⟩⟩
set_option maxRecDepth 20000 in
theorem in_wsL_law0_r31 : ∀ w ∈ wsL_law0_r31, w ∈ lw_tbl := List.forall_mem_cons.mpr ⟨List.mem_of_getElem? (i := 774) (by decide +kernel), List.forall_mem_cons.mpr ⟨List.mem_of_getElem? (i := 775) (by decide +kernel), List.forall_mem_cons.mpr ⟨List.mem_of_getElem? (i := 776) (by decide +kernel), List.forall_mem_cons.mpr ⟨List.mem_of_getElem? (i := 777) (by decide +kernel), List.forall_mem_cons.mpr ⟨List.mem_of_getElem? (i := 778) (by decide +kernel), List.forall_mem_cons.mpr ⟨List.mem_of_getElem? (i := 779) (by decide +kernel), List.forall_mem_cons.mpr ⟨List.mem_of_getElem? (i := 129) (by decide +kernel), List.forall_mem_cons.mpr ⟨List.mem_of_getElem? (i := 1030) (by decide +kernel), List.forall_mem_cons.mpr ⟨List.mem_of_getElem? (i := 1031) (by decide +kernel), List.forall_mem_cons.mpr ⟨List.mem_of_getElem? (i := 1032) (by decide +kernel), List.forall_mem_cons.mpr ⟨List.mem_of_getElem? (i := 1033) (by decide +kernel), List.forall_mem_cons.mpr ⟨List.mem_of_getElem? (i := 233) (by decide +kernel), List.forall_mem_cons.mpr ⟨List.mem_of_getElem? (i := 234) (by decide +kernel), List.forall_mem_cons.mpr ⟨List.mem_of_getElem? (i := 235) (by decide +kernel), List.forall_mem_cons.mpr ⟨List.mem_of_getElem? (i := 236) (by decide +kernel), List.forall_mem_cons.mpr ⟨List.mem_of_getElem? (i := 1034) (by decide +kernel), List.forall_mem_cons.mpr ⟨List.mem_of_getElem? (i := 1035) (by decide +kernel), List.forall_mem_cons.mpr ⟨List.mem_of_getElem? (i := 1036) (by decide +kernel), List.forall_mem_cons.mpr ⟨List.mem_of_getElem? (i := 1037) (by decide +kernel), List.forall_mem_cons.mpr ⟨List.mem_of_getElem? (i := 780) (by decide +kernel), List.forall_mem_cons.mpr ⟨List.mem_of_getElem? (i := 781) (by decide +kernel), List.forall_mem_cons.mpr ⟨List.mem_of_getElem? (i := 782) (by decide +kernel), List.forall_mem_cons.mpr ⟨List.mem_of_getElem? (i := 783) (by decide +kernel), List.forall_mem_cons.mpr ⟨List.mem_of_getElem? (i := 784) (by decide +kernel), fun _ h => absurd h List.not_mem_nil⟩⟩⟩⟩⟩⟩⟩⟩⟩⟩⟩⟩⟩⟩⟩⟩⟩⟩⟩⟩⟩⟩⟩⟩
set_option maxRecDepth 20000 in
theorem in_wsL_law0_r32 : ∀ w ∈ wsL_law0_r32, w ∈ lw_tbl := List.forall_mem_cons.mpr ⟨List.mem_of_getElem? (i := 785) (by decide +kernel), List.forall_mem_cons.mpr ⟨List.mem_of_getElem? (i := 786) (by decide +kernel), List.forall_mem_cons.mpr ⟨List.mem_of_getElem? (i := 787) (by decide +kernel), List.forall_mem_cons.mpr ⟨List.mem_of_getElem? (i := 789) (by decide +kernel), List.forall_mem_cons.mpr ⟨List.mem_of_getElem? (i := 22) (by decide +kernel), List.forall_mem_cons.mpr ⟨List.mem_of_getElem? (i := 790) (by decide +kernel), List.forall_mem_cons.mpr ⟨List.mem_of_getElem? (i := 792) (by decide +kernel), List.forall_mem_cons.mpr ⟨List.mem_of_getElem? (i := 793) (by decide +kernel), List.forall_mem_cons.mpr ⟨List.mem_of_getElem? (i := 794) (by decide +kernel), List.forall_mem_cons.mpr ⟨List.mem_of_getElem? (i := 795) (by decide +kernel), List.forall_mem_cons.mpr ⟨List.mem_of_getElem? (i := 1038) (by decide +kernel), List.forall_mem_cons.mpr ⟨List.mem_of_getElem? (i := 1039) (by decide +kernel), List.forall_mem_cons.mpr ⟨List.mem_of_getElem? (i := 1040) (by decide +kernel), List.forall_mem_cons.mpr ⟨List.mem_of_getElem? (i := 1041) (by decide +kernel), List.forall_mem_cons.mpr ⟨List.mem_of_getElem? (i := 1042) (by decide +kernel), List.forall_mem_cons.mpr ⟨List.mem_of_getElem? (i := 1044) (by decide +kernel), List.forall_mem_cons.mpr ⟨List.mem_of_getElem? (i := 44) (by decide +kernel), List.forall_mem_cons.mpr ⟨List.mem_of_getElem? (i := 1045) (by decide +kernel), List.forall_mem_cons.mpr ⟨List.mem_of_getElem? (i := 796) (by decide +kernel), List.forall_mem_cons.mpr ⟨List.mem_of_getElem? (i := 797) (by decide +kernel), List.forall_mem_cons.mpr ⟨List.mem_of_getElem? (i := 798) (by decide +kernel), List.forall_mem_cons.mpr ⟨List.mem_of_getElem? (i := 799) (by decide +kernel), List.forall_mem_cons.mpr ⟨List.mem_of_getElem? (i := 800) (by decide +kernel), List.forall_mem_cons.mpr ⟨List.mem_of_getElem? (i := 801) (by decide +kernel), fun _ h => absurd h List.not_mem_nil⟩⟩⟩⟩⟩⟩⟩⟩⟩⟩⟩⟩⟩⟩⟩⟩⟩⟩⟩⟩⟩⟩⟩⟩
set_option maxRecDepth 20000 in
theorem in_wsL_law0_r33 : ∀ w ∈ wsL_law0_r33, w ∈ lw_tbl := List.forall_mem_cons.mpr ⟨List.mem_of_getElem? (i := 802) (by decide +kernel), List.forall_mem_cons.mpr ⟨List.mem_of_getElem? (i := 803) (by decide +kernel), List.forall_mem_cons.mpr ⟨List.mem_of_getElem? (i := 804) (by decide +kernel), List.forall_mem_cons.mpr ⟨List.mem_of_getElem? (i := 805) (by decide +kernel), List.forall_mem_cons.mpr ⟨List.mem_of_getElem? (i := 806) (by decide +kernel), List.forall_mem_cons.mpr ⟨List.mem_of_getElem? (i := 1046) (by decide +kernel), List.forall_mem_cons.mpr ⟨List.mem_of_getElem? (i := 1047) (by decide +kernel), List.forall_mem_cons.mpr ⟨List.mem_of_getElem? (i := 1048) (by decide +kernel), List.forall_mem_cons.mpr ⟨List.mem_of_getElem? (i := 1049) (by decide +kernel), fun _ h => absurd h List.not_mem_nil⟩⟩⟩⟩⟩⟩⟩⟩⟩
theorem in0_wsX60 : ∀ w ∈ wsX60, w ∈ lw_tbl := by decide +kernel
theorem in0_wsX70 : ∀ w ∈ wsX70, w ∈ lw_tbl := by decide +kernel
theorem in0_wsX50 : ∀ w ∈ wsX50, w ∈ lw_tbl := by decide +kernel
theorem in0_wsX20 : ∀ w ∈ wsX20, w ∈ lw_tbl := by decide +kernel
theorem in0_wsX40 : ∀ w ∈ wsX40, w ∈ lw_tbl := by decide +kernel
theorem in0_wsJx4a65c0 : ∀ w ∈ wsJx4a65c0, w ∈ lw_tbl := by decide +kernel
theorem in0_wsX30 : ∀ w ∈ wsX30, w ∈ lw_tbl := by decide +kernel
theorem in0_wsX00 : ∀ w ∈ wsX00, w ∈ lw_tbl := by decide +kernel
theorem in0_wsX10 : ∀ w ∈ wsX10, w ∈ lw_tbl := by decide +kernel
theorem wsL_law_in0 : ∀ w ∈ wsL_law0, w ∈ lw_tbl := by
  unfold wsL_law0
  exact List.forall_mem_append.mpr ⟨List.forall_mem_append.mpr ⟨List.forall_mem_append.mpr ⟨List.forall_mem_append.mpr ⟨List.forall_mem_append.mpr ⟨List.forall_mem_append.mpr ⟨List.forall_mem_append.mpr ⟨List.forall_mem_append.mpr ⟨List.forall_mem_append.mpr ⟨List.forall_mem_append.mpr ⟨List.forall_mem_append.mpr ⟨in_wsL_law0_r1, List.forall_mem_append.mpr ⟨in_wsL_law0_r2, List.forall_mem_append.mpr ⟨in_wsL_law0_r3, List.forall_mem_append.mpr ⟨in_wsL_law0_r4, List.forall_mem_append.mpr ⟨in_wsL_law0_r5, List.forall_mem_append.mpr ⟨in_wsL_law0_r6, List.forall_mem_append.mpr ⟨in_wsL_law0_r7, List.forall_mem_append.mpr ⟨in_wsL_law0_r8, List.forall_mem_append.mpr ⟨in_wsL_law0_r9, List.forall_mem_append.mpr ⟨in_wsL_law0_r10, List.forall_mem_append.mpr ⟨in_wsL_law0_r11, List.forall_mem_append.mpr ⟨in_wsL_law0_r12, List.forall_mem_append.mpr ⟨in_wsL_law0_r13, List.forall_mem_append.mpr ⟨in_wsL_law0_r14, List.forall_mem_append.mpr ⟨in_wsL_law0_r15, List.forall_mem_append.mpr ⟨in_wsL_law0_r16, List.forall_mem_append.mpr ⟨in_wsL_law0_r17, List.forall_mem_append.mpr ⟨in_wsL_law0_r18, List.forall_mem_append.mpr ⟨in_wsL_law0_r19, List.forall_mem_append.mpr ⟨in_wsL_law0_r20, List.forall_mem_append.mpr ⟨in_wsL_law0_r21, List.forall_mem_append.mpr ⟨in_wsL_law0_r22, List.forall_mem_append.mpr ⟨in_wsL_law0_r23, List.forall_mem_append.mpr ⟨in_wsL_law0_r24, List.forall_mem_append.mpr ⟨in_wsL_law0_r25, List.forall_mem_append.mpr ⟨in_wsL_law0_r26, List.forall_mem_append.mpr ⟨in_wsL_law0_r27, List.forall_mem_append.mpr ⟨in_wsL_law0_r28, List.forall_mem_append.mpr ⟨in_wsL_law0_r29, List.forall_mem_append.mpr ⟨in_wsL_law0_r30, List.forall_mem_append.mpr ⟨in_wsL_law0_r31, List.forall_mem_append.mpr ⟨in_wsL_law0_r32, in_wsL_law0_r33⟩⟩⟩⟩⟩⟩⟩⟩⟩⟩⟩⟩⟩⟩⟩⟩⟩⟩⟩⟩⟩⟩⟩⟩⟩⟩⟩⟩⟩⟩⟩⟩, in0_wsX60⟩, in0_wsX70⟩, in0_wsX50⟩, in0_wsX20⟩, in0_wsX40⟩, in0_wsJx4a65c0⟩, in0_wsX30⟩, in0_wsX00⟩, in0_wsX10⟩, fun _ h => absurd h List.not_mem_nil⟩
theorem wsL_law_x0 : ∀ w ∈ (vx_atS RX6 181 "java/lang/IndexOutOfBoundsException" ["java/lang/RuntimeException", "java/lang/Exception"]).filter goodWord, w ∈ lw_tbl := by decide +kernel
theorem wsL_law_x1 : ∀ w ∈ (vx_atS RX6 102 "java/lang/IllegalArgumentException" ["java/lang/RuntimeException", "java/lang/Exception"]).filter goodWord, w ∈ lw_tbl := by decide +kernel
theorem wsL_law_x2 : ∀ w ∈ (vx_atS RX6 132 "java/lang/IllegalStateException" ["java/lang/RuntimeException", "java/lang/Exception"]).filter goodWord, w ∈ lw_tbl := by decide +kernel
theorem wsL_law_in : ∀ w ∈ wsL_law, w ∈ lw_tbl := fun w h => (List.mem_append.mp h).elim (fun h => (List.mem_append.mp h).elim (fun h => (List.mem_append.mp h).elim (fun h => wsL_law_in0 w h) (fun h => wsL_law_x0 w h)) (fun h => wsL_law_x1 w h)) (fun h => wsL_law_x2 w h)
theorem inlX0 : ∀ w ∈ wsX00, w ∈ wsL_law := fun _ h => List.mem_append_left _ (List.mem_append_left _ (List.mem_append_left _ (List.mem_append_left _ (List.mem_append_left _ (List.mem_append_right _ h)))))
theorem inX0 : ∀ w ∈ wsX00, w ∈ lw_tbl := fun w h => wsL_law_in w (inlX0 w h)
theorem inlX1 : ∀ w ∈ wsX10, w ∈ wsL_law := fun _ h => List.mem_append_left _ (List.mem_append_left _ (List.mem_append_left _ (List.mem_append_left _ (List.mem_append_right _ h))))
theorem inX1 : ∀ w ∈ wsX10, w ∈ lw_tbl := fun w h => wsL_law_in w (inlX1 w h)
theorem inlX2 : ∀ w ∈ wsX20, w ∈ wsL_law := fun _ h => List.mem_append_left _ (List.mem_append_left _ (List.mem_append_left _ (List.mem_append_left _ (List.mem_append_left _ (List.mem_append_left _ (List.mem_append_left _ (List.mem_append_left _ (List.mem_append_left _ (List.mem_append_right _ h)))))))))
theorem inX2 : ∀ w ∈ wsX20, w ∈ lw_tbl := fun w h => wsL_law_in w (inlX2 w h)
theorem inlX3 : ∀ w ∈ wsX30, w ∈ wsL_law := fun _ h => List.mem_append_left _ (List.mem_append_left _ (List.mem_append_left _ (List.mem_append_left _ (List.mem_append_left _ (List.mem_append_left _ (List.mem_append_right _ h))))))
theorem inX3 : ∀ w ∈ wsX30, w ∈ lw_tbl := fun w h => wsL_law_in w (inlX3 w h)
theorem inlX4 : ∀ w ∈ wsX40, w ∈ wsL_law := fun _ h => List.mem_append_left _ (List.mem_append_left _ (List.mem_append_left _ (List.mem_append_left _ (List.mem_append_left _ (List.mem_append_left _ (List.mem_append_left _ (List.mem_append_left _ (List.mem_append_right _ h))))))))
theorem inX4 : ∀ w ∈ wsX40, w ∈ lw_tbl := fun w h => wsL_law_in w (inlX4 w h)
theorem inlX5 : ∀ w ∈ wsX50, w ∈ wsL_law := fun _ h => List.mem_append_left _ (List.mem_append_left _ (List.mem_append_left _ (List.mem_append_left _ (List.mem_append_left _ (List.mem_append_left _ (List.mem_append_left _ (List.mem_append_left _ (List.mem_append_left _ (List.mem_append_left _ (List.mem_append_right _ h))))))))))
theorem inX5 : ∀ w ∈ wsX50, w ∈ lw_tbl := fun w h => wsL_law_in w (inlX5 w h)
theorem inlX6 : ∀ w ∈ wsX60, w ∈ wsL_law := fun _ h => List.mem_append_left _ (List.mem_append_left _ (List.mem_append_left _ (List.mem_append_left _ (List.mem_append_left _ (List.mem_append_left _ (List.mem_append_left _ (List.mem_append_left _ (List.mem_append_left _ (List.mem_append_left _ (List.mem_append_left _ (List.mem_append_left _ (List.mem_append_right _ h))))))))))))
theorem inX6 : ∀ w ∈ wsX60, w ∈ lw_tbl := fun w h => wsL_law_in w (inlX6 w h)
theorem inlX7 : ∀ w ∈ wsX70, w ∈ wsL_law := fun _ h => List.mem_append_left _ (List.mem_append_left _ (List.mem_append_left _ (List.mem_append_left _ (List.mem_append_left _ (List.mem_append_left _ (List.mem_append_left _ (List.mem_append_left _ (List.mem_append_left _ (List.mem_append_left _ (List.mem_append_left _ (List.mem_append_right _ h)))))))))))
theorem inX7 : ∀ w ∈ wsX70, w ∈ lw_tbl := fun w h => wsL_law_in w (inlX7 w h)
theorem inJx145de : ∀ w ∈ wsJx145de0, w ∈ lw_tbl := by decide +kernel
theorem inJx8e188 : ∀ w ∈ wsJx8e1880, w ∈ lw_tbl := by decide +kernel
theorem inJxab1ab : ∀ w ∈ wsJxab1ab0, w ∈ lw_tbl := by decide +kernel
theorem inJ9 : ∀ w ∈ wsJ90, w ∈ lw_tbl := by decide +kernel
theorem inJ0 : ∀ w ∈ wsJ00, w ∈ lw_tbl := by decide +kernel
theorem inJ10 : ∀ w ∈ wsJ100, w ∈ lw_tbl := by decide +kernel
theorem inJxa1e45 : ∀ w ∈ wsJxa1e450, w ∈ lw_tbl := by decide +kernel
theorem inJxc12de : ∀ w ∈ wsJxc12de0, w ∈ lw_tbl := by decide +kernel
theorem inlJx4a65c : ∀ w ∈ wsJx4a65c0, w ∈ wsL_law := fun _ h => List.mem_append_left _ (List.mem_append_left _ (List.mem_append_left _ (List.mem_append_left _ (List.mem_append_left _ (List.mem_append_left _ (List.mem_append_left _ (List.mem_append_right _ h)))))))
theorem inJx4a65c : ∀ w ∈ wsJx4a65c0, w ∈ lw_tbl := fun w h => wsL_law_in w (inlJx4a65c w h)
theorem inJ7 : ∀ w ∈ wsJ70, w ∈ lw_tbl := by decide +kernel
theorem inJx5ef63 : ∀ w ∈ wsJx5ef630, w ∈ lw_tbl := by decide +kernel
theorem inJxbd725 : ∀ w ∈ wsJxbd7250, w ∈ lw_tbl := by decide +kernel
theorem inJ15 : ∀ w ∈ wsJ150, w ∈ lw_tbl := by decide +kernel
theorem inJxf0a74 : ∀ w ∈ wsJxf0a740, w ∈ lw_tbl := by decide +kernel
theorem inJxa66e6 : ∀ w ∈ wsJxa66e60, w ∈ lw_tbl := by decide +kernel
theorem inJ8 : ∀ w ∈ wsJ80, w ∈ lw_tbl := by decide +kernel
theorem inJ3 : ∀ w ∈ wsJ30, w ∈ lw_tbl := by decide +kernel
end
section
theorem dX0_init_0 : decode cX0_init 0 = .ok (.aload_n 0, 1) := by decide +kernel
theorem dX0_init_1 : decode cX0_init 1 = .ok (.invokespecial 3, 3) := by decide +kernel
theorem dX0_init_4 : decode cX0_init 4 = .ok (.aload_n 0, 1) := by decide +kernel
theorem dX0_init_5 : decode cX0_init 5 = .ok (.iconst (-1), 1) := by decide +kernel
theorem dX0_init_6 : decode cX0_init 6 = .ok (.putfield 9, 3) := by decide +kernel
theorem dX0_init_9 : decode cX0_init 9 = .ok (.return_, 1) := by decide +kernel
theorem dX0_make_0 : decode cX0_make 0 = .ok (.aload_n 0, 1) := by decide +kernel
theorem dX0_make_1 : decode cX0_make 1 = .ok (.iconst 1, 1) := by decide +kernel
theorem dX0_make_2 : decode cX0_make 2 = .ok (.putfield 15, 3) := by decide +kernel
theorem dX0_make_5 : decode cX0_make 5 = .ok (.aload_n 0, 1) := by decide +kernel
theorem dX0_make_6 : decode cX0_make 6 = .ok (.iload_n 1, 1) := by decide +kernel
theorem dX0_make_7 : decode cX0_make 7 = .ok (.putfield 19, 3) := by decide +kernel
theorem dX0_make_10 : decode cX0_make 10 = .ok (.aload_n 0, 1) := by decide +kernel
theorem dX0_make_11 : decode cX0_make 11 = .ok (.iload_n 2, 1) := by decide +kernel
theorem dX0_make_12 : decode cX0_make 12 = .ok (.putfield 9, 3) := by decide +kernel
theorem dX0_make_15 : decode cX0_make 15 = .ok (.return_, 1) := by decide +kernel
set_option maxRecDepth 20000 in
theorem ggX0_load_X0_make : GoodIn wsX0_load wsX0_make := goodIn_r _ [7, 8, 9, 10, 24, 25, 26, 27, 28, 29, 30, 31] (by decide +kernel) (by decide +kernel)
set_option maxRecDepth 20000 in
theorem gX0_load_X0_make : GoodIn wsX0_load (wsV RX0 26 RX0 yX0_make wsX0_make) := goodIn_app (goodIn_of _ (by decide +kernel)) ggX0_load_X0_make
set_option maxRecDepth 20000 in
theorem ggX0_load_X0_takeSnapshot : GoodIn wsX0_load wsX0_takeSnapshot := goodIn_r _ [14, 15, 1, 16, 2, 17, 18, 19, 24, 25, 26, 27, 28, 29, 30, 31, 20, 21, 22, 23] (by decide +kernel) (by decide +kernel)
set_option maxRecDepth 20000 in
theorem gX0_load_X0_takeSnapshot : GoodIn wsX0_load (wsV RX0 30 RX0 yX0_takeSnapshot wsX0_takeSnapshot) := goodIn_app (goodIn_of _ (by decide +kernel)) ggX0_load_X0_takeSnapshot
theorem dX0_load_0 : decode cX0_load 0 = .ok (.aload_n 0, 1) := by decide +kernel
theorem dX0_load_1 : decode cX0_load 1 = .ok (.aload_n 1, 1) := by decide +kernel
theorem dX0_load_2 : decode cX0_load 2 = .ok (.getfield 22, 3) := by decide +kernel
theorem dX0_load_5 : decode cX0_load 5 = .ok (.aload_n 1, 1) := by decide +kernel
theorem dX0_load_6 : decode cX0_load 6 = .ok (.getfield 25, 3) := by decide +kernel
theorem dX0_load_9 : decode cX0_load 9 = .ok (.invokevirtual 26, 3) := by decide +kernel
theorem dX0_load_12 : decode cX0_load 12 = .ok (.aload_n 0, 1) := by decide +kernel
theorem dX0_load_13 : decode cX0_load 13 = .ok (.aload_n 1, 1) := by decide +kernel
theorem dX0_load_14 : decode cX0_load 14 = .ok (.invokevirtual 30, 3) := by decide +kernel
theorem dX0_load_17 : decode cX0_load 17 = .ok (.return_, 1) := by decide +kernel
theorem dX0_takeSnapshot_0 : decode cX0_takeSnapshot 0 = .ok (.aload_n 0, 1) := by decide +kernel
theorem dX0_takeSnapshot_1 : decode cX0_takeSnapshot 1 = .ok (.iconst 1, 1) := by decide +kernel
theorem dX0_takeSnapshot_2 : decode cX0_takeSnapshot 2 = .ok (.putfield 34, 3) := by decide +kernel
theorem dX0_takeSnapshot_5 : decode cX0_takeSnapshot 5 = .ok (.aload_n 0, 1) := by decide +kernel
theorem dX0_takeSnapshot_6 : decode cX0_takeSnapshot 6 = .ok (.aload_n 1, 1) := by decide +kernel
theorem dX0_takeSnapshot_7 : decode cX0_takeSnapshot 7 = .ok (.getfield 22, 3) := by decide +kernel
theorem dX0_takeSnapshot_10 : decode cX0_takeSnapshot 10 = .ok (.putfield 37, 3) := by decide +kernel
theorem dX0_takeSnapshot_13 : decode cX0_takeSnapshot 13 = .ok (.aload_n 0, 1) := by decide +kernel
theorem dX0_takeSnapshot_14 : decode cX0_takeSnapshot 14 = .ok (.aload_n 1, 1) := by decide +kernel
theorem dX0_takeSnapshot_15 : decode cX0_takeSnapshot 15 = .ok (.getfield 25, 3) := by decide +kernel
theorem dX0_takeSnapshot_18 : decode cX0_takeSnapshot 18 = .ok (.putfield 40, 3) := by decide +kernel
theorem dX0_takeSnapshot_21 : decode cX0_takeSnapshot 21 = .ok (.aload_n 0, 1) := by decide +kernel
theorem dX0_takeSnapshot_22 : decode cX0_takeSnapshot 22 = .ok (.aload_n 1, 1) := by decide +kernel
theorem dX0_takeSnapshot_23 : decode cX0_takeSnapshot 23 = .ok (.getfield 43, 3) := by decide +kernel
theorem dX0_takeSnapshot_26 : decode cX0_takeSnapshot 26 = .ok (.putfield 46, 3) := by decide +kernel
theorem dX0_takeSnapshot_29 : decode cX0_takeSnapshot 29 = .ok (.return_, 1) := by decide +kernel
theorem dX0_forget_0 : decode cX0_forget 0 = .ok (.aload_n 0, 1) := by decide +kernel
theorem dX0_forget_1 : decode cX0_forget 1 = .ok (.iconst 0, 1) := by decide +kernel
theorem dX0_forget_2 : decode cX0_forget 2 = .ok (.putfield 15, 3) := by decide +kernel
theorem dX0_forget_5 : decode cX0_forget 5 = .ok (.aload_n 0, 1) := by decide +kernel
theorem dX0_forget_6 : decode cX0_forget 6 = .ok (.iconst 0, 1) := by decide +kernel
theorem dX0_forget_7 : decode cX0_forget 7 = .ok (.putfield 49, 3) := by decide +kernel
theorem dX0_forget_10 : decode cX0_forget 10 = .ok (.aload_n 0, 1) := by decide +kernel
theorem dX0_forget_11 : decode cX0_forget 11 = .ok (.iconst 0, 1) := by decide +kernel
theorem dX0_forget_12 : decode cX0_forget 12 = .ok (.putfield 34, 3) := by decide +kernel
theorem dX0_forget_15 : decode cX0_forget 15 = .ok (.return_, 1) := by decide +kernel
set_option maxRecDepth 20000 in
theorem ggX0_strikeOut_X0_forget : GoodIn wsX0_strikeOut wsX0_forget := goodIn_r _ [7, 8, 2, 1, 9, 10, 11, 12, 13, 14, 15, 16] (by decide +kernel) (by decide +kernel)
set_option maxRecDepth 20000 in
theorem gX0_strikeOut_X0_forget : GoodIn wsX0_strikeOut (wsV RX0 52 RX0 yX0_forget wsX0_forget) := goodIn_app (goodIn_of _ (by decide +kernel)) ggX0_strikeOut_X0_forget
theorem dX0_strikeOut_0 : decode cX0_strikeOut 0 = .ok (.aload_n 0, 1) := by decide +kernel
theorem dX0_strikeOut_1 : decode cX0_strikeOut 1 = .ok (.getfield 34, 3) := by decide +kernel
theorem dX0_strikeOut_4 : decode cX0_strikeOut 4 = .ok (.ifCond .eq 11, 3) := by decide +kernel
theorem dX0_strikeOut_7 : decode cX0_strikeOut 7 = .ok (.aload_n 0, 1) := by decide +kernel
theorem dX0_strikeOut_8 : decode cX0_strikeOut 8 = .ok (.iconst 1, 1) := by decide +kernel
theorem dX0_strikeOut_9 : decode cX0_strikeOut 9 = .ok (.putfield 49, 3) := by decide +kernel
theorem dX0_strikeOut_12 : decode cX0_strikeOut 12 = .ok (.goto 7, 3) := by decide +kernel
theorem dX0_strikeOut_15 : decode cX0_strikeOut 15 = .ok (.aload_n 0, 1) := by decide +kernel
theorem dX0_strikeOut_16 : decode cX0_strikeOut 16 = .ok (.invokevirtual 52, 3) := by decide +kernel
theorem dX0_strikeOut_19 : decode cX0_strikeOut 19 = .ok (.return_, 1) := by decide +kernel
theorem dX0_isLive_0 : decode cX0_isLive 0 = .ok (.aload_n 0, 1) := by decide +kernel
theorem dX0_isLive_1 : decode cX0_isLive 1 = .ok (.getfield 15, 3) := by decide +kernel
theorem dX0_isLive_4 : decode cX0_isLive 4 = .ok (.ifCond .eq 14, 3) := by decide +kernel
theorem dX0_isLive_7 : decode cX0_isLive 7 = .ok (.aload_n 0, 1) := by decide +kernel
theorem dX0_isLive_8 : decode cX0_isLive 8 = .ok (.getfield 49, 3) := by decide +kernel
theorem dX0_isLive_11 : decode cX0_isLive 11 = .ok (.ifCond .ne 7, 3) := by decide +kernel
theorem dX0_isLive_14 : decode cX0_isLive 14 = .ok (.iconst 1, 1) := by decide +kernel
theorem dX0_isLive_15 : decode cX0_isLive 15 = .ok (.goto 4, 3) := by decide +kernel
theorem dX0_isLive_18 : decode cX0_isLive 18 = .ok (.iconst 0, 1) := by decide +kernel
theorem dX0_isLive_19 : decode cX0_isLive 19 = .ok (.ireturn, 1) := by decide +kernel
set_option maxRecDepth 20000 in
theorem ggX0_isLiveAndRefersTo_X0_isLive : GoodIn wsX0_isLiveAndRefersTo wsX0_isLive := goodIn_r _ [6, 7, 8, 9, 10, 11, 12, 13, 14, 15, 16] (by decide +kernel) (by decide +kernel)
set_option maxRecDepth 20000 in
theorem gX0_isLiveAndRefersTo_X0_isLive : GoodIn wsX0_isLiveAndRefersTo (wsV RX0 55 RX0 yX0_isLive wsX0_isLive) := goodIn_app (goodIn_of _ (by decide +kernel)) ggX0_isLiveAndRefersTo_X0_isLive
theorem dX0_isLiveAndRefersTo_0 : decode cX0_isLiveAndRefersTo 0 = .ok (.aload_n 0, 1) := by decide +kernel
theorem dX0_isLiveAndRefersTo_1 : decode cX0_isLiveAndRefersTo 1 = .ok (.invokevirtual 55, 3) := by decide +kernel
theorem dX0_isLiveAndRefersTo_4 : decode cX0_isLiveAndRefersTo 4 = .ok (.ifCond .eq 15, 3) := by decide +kernel
theorem dX0_isLiveAndRefersTo_7 : decode cX0_isLiveAndRefersTo 7 = .ok (.aload_n 0, 1) := by decide +kernel
theorem dX0_isLiveAndRefersTo_8 : decode cX0_isLiveAndRefersTo 8 = .ok (.getfield 9, 3) := by decide +kernel
theorem dX0_isLiveAndRefersTo_11 : decode cX0_isLiveAndRefersTo 11 = .ok (.iload_n 1, 1) := by decide +kernel
theorem dX0_isLiveAndRefersTo_12 : decode cX0_isLiveAndRefersTo 12 = .ok (.if_icmp .ne 7, 3) := by decide +kernel
theorem dX0_isLiveAndRefersTo_15 : decode cX0_isLiveAndRefersTo 15 = .ok (.iconst 1, 1) := by decide +kernel
theorem dX0_isLiveAndRefersTo_16 : decode cX0_isLiveAndRefersTo 16 = .ok (.goto 4, 3) := by decide +kernel
theorem dX0_isLiveAndRefersTo_19 : decode cX0_isLiveAndRefersTo 19 = .ok (.iconst 0, 1) := by decide +kernel
theorem dX0_isLiveAndRefersTo_20 : decode cX0_isLiveAndRefersTo 20 = .ok (.ireturn, 1) := by decide +kernel
theorem dX0_isNew_0 : decode cX0_isNew 0 = .ok (.aload_n 0, 1) := by decide +kernel
theorem dX0_isNew_1 : decode cX0_isNew 1 = .ok (.getfield 15, 3) := by decide +kernel
theorem dX0_isNew_4 : decode cX0_isNew 4 = .ok (.ifCond .eq 14, 3) := by decide +kernel
theorem dX0_isNew_7 : decode cX0_isNew 7 = .ok (.aload_n 0, 1) := by decide +kernel
theorem dX0_isNew_8 : decode cX0_isNew 8 = .ok (.getfield 34, 3) := by decide +kernel
theorem dX0_isNew_11 : decode cX0_isNew 11 = .ok (.ifCond .ne 7, 3) := by decide +kernel
theorem dX0_isNew_14 : decode cX0_isNew 14 = .ok (.iconst 1, 1) := by decide +kernel
theorem dX0_isNew_15 : decode cX0_isNew 15 = .ok (.goto 4, 3) := by decide +kernel
theorem dX0_isNew_18 : decode cX0_isNew 18 = .ok (.iconst 0, 1) := by decide +kernel
theorem dX0_isNew_19 : decode cX0_isNew 19 = .ok (.ireturn, 1) := by decide +kernel
theorem dX0_isChanged_0 : decode cX0_isChanged 0 = .ok (.aload_n 0, 1) := by decide +kernel
theorem dX0_isChanged_1 : decode cX0_isChanged 1 = .ok (.getfield 34, 3) := by decide +kernel
theorem dX0_isChanged_4 : decode cX0_isChanged 4 = .ok (.ifCond .eq 29, 3) := by decide +kernel
theorem dX0_isChanged_7 : decode cX0_isChanged 7 = .ok (.aload_n 0, 1) := by decide +kernel
theorem dX0_isChanged_8 : decode cX0_isChanged 8 = .ok (.getfield 19, 3) := by decide +kernel
theorem dX0_isChanged_11 : decode cX0_isChanged 11 = .ok (.aload_n 0, 1) := by decide +kernel
theorem dX0_isChanged_12 : decode cX0_isChanged 12 = .ok (.getfield 37, 3) := by decide +kernel
theorem dX0_isChanged_15 : decode cX0_isChanged 15 = .ok (.if_icmp .ne 14, 3) := by decide +kernel
theorem dX0_isChanged_18 : decode cX0_isChanged 18 = .ok (.aload_n 0, 1) := by decide +kernel
theorem dX0_isChanged_19 : decode cX0_isChanged 19 = .ok (.getfield 9, 3) := by decide +kernel
theorem dX0_isChanged_22 : decode cX0_isChanged 22 = .ok (.aload_n 0, 1) := by decide +kernel
theorem dX0_isChanged_23 : decode cX0_isChanged 23 = .ok (.getfield 40, 3) := by decide +kernel
theorem dX0_isChanged_26 : decode cX0_isChanged 26 = .ok (.if_icmp .eq 7, 3) := by decide +kernel
theorem dX0_isChanged_29 : decode cX0_isChanged 29 = .ok (.iconst 1, 1) := by decide +kernel
theorem dX0_isChanged_30 : decode cX0_isChanged 30 = .ok (.goto 4, 3) := by decide +kernel
theorem dX0_isChanged_33 : decode cX0_isChanged 33 = .ok (.iconst 0, 1) := by decide +kernel
theorem dX0_isChanged_34 : decode cX0_isChanged 34 = .ok (.ireturn, 1) := by decide +kernel
set_option maxRecDepth 20000 in
theorem ggX0_clashesWith_X0_isChanged : GoodIn wsX0_clashesWith wsX0_isChanged := goodIn_r _ [9, 10, 11, 12, 13, 14, 15, 16, 17, 18, 19, 20, 21, 22] (by decide +kernel) (by decide +kernel)
set_option maxRecDepth 20000 in
theorem gX0_clashesWith_X0_isChanged : GoodIn wsX0_clashesWith (wsV RX0 59 RX0 yX0_isChanged wsX0_isChanged) := goodIn_app (goodIn_of _ (by decide +kernel)) ggX0_clashesWith_X0_isChanged
theorem dX0_clashesWith_0 : decode cX0_clashesWith 0 = .ok (.aload_n 0, 1) := by decide +kernel
theorem dX0_clashesWith_1 : decode cX0_clashesWith 1 = .ok (.invokevirtual 59, 3) := by decide +kernel
theorem dX0_clashesWith_4 : decode cX0_clashesWith 4 = .ok (.ifCond .ne 10, 3) := by decide +kernel
theorem dX0_clashesWith_7 : decode cX0_clashesWith 7 = .ok (.aload_n 0, 1) := by decide +kernel
theorem dX0_clashesWith_8 : decode cX0_clashesWith 8 = .ok (.getfield 49, 3) := by decide +kernel
theorem dX0_clashesWith_11 : decode cX0_clashesWith 11 = .ok (.ifCond .eq 25, 3) := by decide +kernel
theorem dX0_clashesWith_14 : decode cX0_clashesWith 14 = .ok (.aload_n 1, 1) := by decide +kernel
theorem dX0_clashesWith_15 : decode cX0_clashesWith 15 = .ok (.getfield 62, 3) := by decide +kernel
theorem dX0_clashesWith_18 : decode cX0_clashesWith 18 = .ok (.ifCond .eq 14, 3) := by decide +kernel
theorem dX0_clashesWith_21 : decode cX0_clashesWith 21 = .ok (.aload_n 1, 1) := by decide +kernel
theorem dX0_clashesWith_22 : decode cX0_clashesWith 22 = .ok (.getfield 43, 3) := by decide +kernel
theorem dX0_clashesWith_25 : decode cX0_clashesWith 25 = .ok (.aload_n 0, 1) := by decide +kernel
theorem dX0_clashesWith_26 : decode cX0_clashesWith 26 = .ok (.getfield 46, 3) := by decide +kernel
theorem dX0_clashesWith_29 : decode cX0_clashesWith 29 = .ok (.if_icmp .eq 7, 3) := by decide +kernel
theorem dX0_clashesWith_32 : decode cX0_clashesWith 32 = .ok (.iconst 1, 1) := by decide +kernel
theorem dX0_clashesWith_33 : decode cX0_clashesWith 33 = .ok (.goto 4, 3) := by decide +kernel
theorem dX0_clashesWith_36 : decode cX0_clashesWith 36 = .ok (.iconst 0, 1) := by decide +kernel
theorem dX0_clashesWith_37 : decode cX0_clashesWith 37 = .ok (.ireturn, 1) := by decide +kernel
theorem dX1_init_0 : decode cX1_init 0 = .ok (.aload_n 0, 1) := by decide +kernel
theorem dX1_init_1 : decode cX1_init 1 = .ok (.invokespecial 3, 3) := by decide +kernel
theorem dX1_init_4 : decode cX1_init 4 = .ok (.aload_n 0, 1) := by decide +kernel
theorem dX1_init_5 : decode cX1_init 5 = .ok (.aload_n 1, 1) := by decide +kernel
theorem dX1_init_6 : decode cX1_init 6 = .ok (.putfield 9, 3) := by decide +kernel
theorem dX1_init_9 : decode cX1_init 9 = .ok (.aload_n 0, 1) := by decide +kernel
theorem dX1_init_10 : decode cX1_init 10 = .ok (.aload_n 2, 1) := by decide +kernel
theorem dX1_init_11 : decode cX1_init 11 = .ok (.putfield 15, 3) := by decide +kernel
theorem dX1_init_14 : decode cX1_init 14 = .ok (.aload_n 0, 1) := by decide +kernel
theorem dX1_init_15 : decode cX1_init 15 = .ok (.aload_n 3, 1) := by decide +kernel
theorem dX1_init_16 : decode cX1_init 16 = .ok (.putfield 19, 3) := by decide +kernel
theorem dX1_init_19 : decode cX1_init 19 = .ok (.aload_n 0, 1) := by decide +kernel
theorem dX1_init_20 : decode cX1_init 20 = .ok (.aload 4, 2) := by decide +kernel
theorem dX1_init_22 : decode cX1_init 22 = .ok (.putfield 22, 3) := by decide +kernel
theorem dX1_init_25 : decode cX1_init 25 = .ok (.return_, 1) := by decide +kernel
theorem dX1_tableFor_0 : decode cX1_tableFor 0 = .ok (.iload_n 1, 1) := by decide +kernel
theorem dX1_tableFor_1 : decode cX1_tableFor 1 = .ok (.ifCond .ne 10, 3) := by decide +kernel
theorem dX1_tableFor_4 : decode cX1_tableFor 4 = .ok (.aload_n 0, 1) := by decide +kernel
theorem dX1_tableFor_5 : decode cX1_tableFor 5 = .ok (.getfield 15, 3) := by decide +kernel
theorem dX1_tableFor_8 : decode cX1_tableFor 8 = .ok (.goto 7, 3) := by decide +kernel
theorem dX1_tableFor_11 : decode cX1_tableFor 11 = .ok (.aload_n 0, 1) := by decide +kernel
theorem dX1_tableFor_12 : decode cX1_tableFor 12 = .ok (.getfield 19, 3) := by decide +kernel
theorem dX1_tableFor_15 : decode cX1_tableFor 15 = .ok (.areturn, 1) := by decide +kernel
set_option maxRecDepth 20000 in
theorem ggX1_clashes_X1_clashesIn : GoodIn wsX1_clashes wsX1_clashesIn := goodIn_r _ [5, 6, 7, 8, 9, 10, 11, 12, 13, 14, 15, 16, 17, 18, 19, 20, 21, 22, 23, 24, 25, 26, 27, 28, 29, 30, 31, 32, 33, 34, 35, 36, 37, 38, 39, 40, 41, 42, 43, 44, 45, 46, 47, 48, 49, 4, 50, 51, 52, 53, 54, 55, 56, 57, 58, 59, 60, 61, 62, 63, 64, 65, 66, 67, 68, 69, 70, 71, 72, 73, 74, 75, 76, 77, 78, 79, 80, 81, 82, 83, 84, 85, 86, 87, 88, 89, 90, 91, 92, 93, 94, 95, 96, 97, 98, 99, 100, 101, 102, 103, 104] (by decide +kernel) (by decide +kernel)
set_option maxRecDepth 20000 in
theorem gX1_clashes_X1_clashesIn : GoodIn wsX1_clashes (wsV RX1 26 RX1 yX1_clashesIn wsX1_clashesIn) := goodIn_app (goodIn_of _ (by decide +kernel)) ggX1_clashes_X1_clashesIn
theorem dX1_clashes_0 : decode cX1_clashes 0 = .ok (.aload_n 0, 1) := by decide +kernel
theorem dX1_clashes_1 : decode cX1_clashes 1 = .ok (.iconst 0, 1) := by decide +kernel
theorem dX1_clashes_2 : decode cX1_clashes 2 = .ok (.invokevirtual 26, 3) := by decide +kernel
theorem dX1_clashes_5 : decode cX1_clashes 5 = .ok (.ifCond .ne 11, 3) := by decide +kernel
theorem dX1_clashes_8 : decode cX1_clashes 8 = .ok (.aload_n 0, 1) := by decide +kernel
theorem dX1_clashes_9 : decode cX1_clashes 9 = .ok (.iconst 1, 1) := by decide +kernel
theorem dX1_clashes_10 : decode cX1_clashes 10 = .ok (.invokevirtual 26, 3) := by decide +kernel
theorem dX1_clashes_13 : decode cX1_clashes 13 = .ok (.ifCond .eq 7, 3) := by decide +kernel
theorem dX1_clashes_16 : decode cX1_clashes 16 = .ok (.iconst 1, 1) := by decide +kernel
theorem dX1_clashes_17 : decode cX1_clashes 17 = .ok (.goto 4, 3) := by decide +kernel
theorem dX1_clashes_20 : decode cX1_clashes 20 = .ok (.iconst 0, 1) := by decide +kernel
theorem dX1_clashes_21 : decode cX1_clashes 21 = .ok (.ireturn, 1) := by decide +kernel
set_option maxRecDepth 20000 in
theorem ggX1_clashesIn_X4_sizeOf : GoodIn wsX1_clashesIn wsX4_sizeOf := goodIn_r _ [6, 7, 8, 9, 5, 10, 11, 12, 13, 14, 15, 16, 17, 18, 81, 82, 83, 84, 85, 86] (by decide +kernel) (by decide +kernel)
set_option maxRecDepth 20000 in
theorem gX1_clashesIn_X4_sizeOf : GoodIn wsX1_clashesIn (wsV RX1 30 RX4 yX4_sizeOf wsX4_sizeOf) := goodIn_app (goodIn_of _ (by decide +kernel)) ggX1_clashesIn_X4_sizeOf
set_option maxRecDepth 20000 in
theorem ggX1_clashesIn_X4_entityAt : GoodIn wsX1_clashesIn wsX4_entityAt := goodIn_r _ [22, 23, 24, 7, 8, 9, 5, 10, 11, 12, 13, 14, 15, 16, 17, 18, 25, 26, 27, 28, 29, 30, 31, 32, 33, 34, 35, 36, 37, 38, 39, 40, 41, 81, 82, 83, 84, 85, 86] (by decide +kernel) (by decide +kernel)
set_option maxRecDepth 20000 in
theorem gX1_clashesIn_X4_entityAt : GoodIn wsX1_clashesIn (wsV RX1 36 RX4 yX4_entityAt wsX4_entityAt) := goodIn_app (goodIn_of _ (by decide +kernel)) ggX1_clashesIn_X4_entityAt
set_option maxRecDepth 20000 in
theorem ggX1_clashesIn_X1_tableFor : GoodIn wsX1_clashesIn wsX1_tableFor := goodIn_r _ [46, 47, 48, 77, 78, 79, 80] (by decide +kernel) (by decide +kernel)
set_option maxRecDepth 20000 in
theorem gX1_clashesIn_X1_tableFor : GoodIn wsX1_clashesIn (wsV RX1 40 RX1 yX1_tableFor wsX1_tableFor) := goodIn_app (goodIn_of _ (by decide +kernel)) ggX1_clashesIn_X1_tableFor
set_option maxRecDepth 20000 in
theorem ggX1_clashesIn_X5_rowAt : GoodIn wsX1_clashesIn wsX5_rowAt := goodIn_r _ [53, 54, 55, 56, 57, 14, 15, 16, 17, 18, 58, 26, 27, 28, 29, 30, 31, 32, 33, 34, 35, 36, 37, 38, 39, 40, 41, 87, 88, 84, 85, 86] (by decide +kernel) (by decide +kernel)
set_option maxRecDepth 20000 in
theorem gX1_clashesIn_X5_rowAt : GoodIn wsX1_clashesIn (wsV RX1 44 RX5 yX5_rowAt wsX5_rowAt) := goodIn_app (goodIn_of _ (by decide +kernel)) ggX1_clashesIn_X5_rowAt
set_option maxRecDepth 20000 in
theorem ggX1_clashesIn_X0_clashesWith : GoodIn wsX1_clashesIn wsX0_clashesWith := goodIn_r _ [63, 64, 65, 66, 67, 68, 69, 70, 62, 71, 72, 73, 74, 75, 76, 89, 90, 91, 92, 93, 94, 95, 96, 97, 98, 99, 100] (by decide +kernel) (by decide +kernel)
set_option maxRecDepth 20000 in
theorem gX1_clashesIn_X0_clashesWith : GoodIn wsX1_clashesIn (wsV RX1 50 RX0 yX0_clashesWith wsX0_clashesWith) := goodIn_app (goodIn_of _ (by decide +kernel)) ggX1_clashesIn_X0_clashesWith
theorem dX1_clashesIn_0 : decode cX1_clashesIn 0 = .ok (.iconst 0, 1) := by decide +kernel
theorem dX1_clashesIn_1 : decode cX1_clashesIn 1 = .ok (.istore_n 2, 1) := by decide +kernel
theorem dX1_clashesIn_2 : decode cX1_clashesIn 2 = .ok (.iload_n 2, 1) := by decide +kernel
theorem dX1_clashesIn_3 : decode cX1_clashesIn 3 = .ok (.aload_n 0, 1) := by decide +kernel
theorem dX1_clashesIn_4 : decode cX1_clashesIn 4 = .ok (.getfield 9, 3) := by decide +kernel
theorem dX1_clashesIn_7 : decode cX1_clashesIn 7 = .ok (.iload_n 1, 1) := by decide +kernel
theorem dX1_clashesIn_8 : decode cX1_clashesIn 8 = .ok (.invokevirtual 30, 3) := by decide +kernel
theorem dX1_clashesIn_11 : decode cX1_clashesIn 11 = .ok (.if_icmp .ge 35, 3) := by decide +kernel
theorem dX1_clashesIn_14 : decode cX1_clashesIn 14 = .ok (.aload_n 0, 1) := by decide +kernel
theorem dX1_clashesIn_15 : decode cX1_clashesIn 15 = .ok (.getfield 9, 3) := by decide +kernel
theorem dX1_clashesIn_18 : decode cX1_clashesIn 18 = .ok (.iload_n 1, 1) := by decide +kernel
theorem dX1_clashesIn_19 : decode cX1_clashesIn 19 = .ok (.iload_n 2, 1) := by decide +kernel
theorem dX1_clashesIn_20 : decode cX1_clashesIn 20 = .ok (.invokevirtual 36, 3) := by decide +kernel
theorem dX1_clashesIn_23 : decode cX1_clashesIn 23 = .ok (.aload_n 0, 1) := by decide +kernel
theorem dX1_clashesIn_24 : decode cX1_clashesIn 24 = .ok (.iload_n 1, 1) := by decide +kernel
theorem dX1_clashesIn_25 : decode cX1_clashesIn 25 = .ok (.invokevirtual 40, 3) := by decide +kernel
theorem dX1_clashesIn_28 : decode cX1_clashesIn 28 = .ok (.iload_n 2, 1) := by decide +kernel
theorem dX1_clashesIn_29 : decode cX1_clashesIn 29 = .ok (.invokevirtual 44, 3) := by decide +kernel
theorem dX1_clashesIn_32 : decode cX1_clashesIn 32 = .ok (.invokevirtual 50, 3) := by decide +kernel
theorem dX1_clashesIn_35 : decode cX1_clashesIn 35 = .ok (.ifCond .eq 5, 3) := by decide +kernel
theorem dX1_clashesIn_38 : decode cX1_clashesIn 38 = .ok (.iconst 1, 1) := by decide +kernel
theorem dX1_clashesIn_39 : decode cX1_clashesIn 39 = .ok (.ireturn, 1) := by decide +kernel
theorem dX1_clashesIn_40 : decode cX1_clashesIn 40 = .ok (.iinc 2 1, 3) := by decide +kernel
theorem dX1_clashesIn_43 : decode cX1_clashesIn 43 = .ok (.goto (-41), 3) := by decide +kernel
theorem dX1_clashesIn_46 : decode cX1_clashesIn 46 = .ok (.iconst 0, 1) := by decide +kernel
theorem dX1_clashesIn_47 : decode cX1_clashesIn 47 = .ok (.ireturn, 1) := by decide +kernel
set_option maxRecDepth 20000 in
theorem ggX1_leavesDanglingReference_X1_leavesDanglingIn : GoodIn wsX1_leavesDanglingReference wsX1_leavesDanglingIn := goodIn_r _ [5, 6, 7, 8, 9, 10, 11, 12, 13, 14, 15, 16, 17, 18, 19, 20, 21, 22, 23, 24, 25, 26, 4, 27, 28, 29, 30, 31, 32, 33, 34, 35, 36, 37, 38, 39, 40, 41, 42, 43, 44, 45, 46, 47, 48, 49, 50, 51, 52, 53, 54, 55, 56, 57, 58, 59, 60, 61, 62, 63, 64, 65, 66, 67, 68, 69, 70, 71, 72, 73, 74, 75, 76, 77, 78, 79, 80, 81, 82, 83, 84, 85, 86, 87, 88, 89, 90, 91, 92, 93, 94, 95, 96, 97, 98, 99, 100, 101, 102, 103, 104, 105, 106, 107, 108, 109, 110, 111, 112, 113, 114, 115, 116] (by decide +kernel) (by decide +kernel)
set_option maxRecDepth 20000 in
theorem gX1_leavesDanglingReference_X1_leavesDanglingIn : GoodIn wsX1_leavesDanglingReference (wsV RX1 56 RX1 yX1_leavesDanglingIn wsX1_leavesDanglingIn) := goodIn_app (goodIn_of _ (by decide +kernel)) ggX1_leavesDanglingReference_X1_leavesDanglingIn
theorem dX1_leavesDanglingReference_0 : decode cX1_leavesDanglingReference 0 = .ok (.aload_n 0, 1) := by decide +kernel
theorem dX1_leavesDanglingReference_1 : decode cX1_leavesDanglingReference 1 = .ok (.iconst 0, 1) := by decide +kernel
theorem dX1_leavesDanglingReference_2 : decode cX1_leavesDanglingReference 2 = .ok (.invokevirtual 56, 3) := by decide +kernel
theorem dX1_leavesDanglingReference_5 : decode cX1_leavesDanglingReference 5 = .ok (.ifCond .ne 11, 3) := by decide +kernel
theorem dX1_leavesDanglingReference_8 : decode cX1_leavesDanglingReference 8 = .ok (.aload_n 0, 1) := by decide +kernel
theorem dX1_leavesDanglingReference_9 : decode cX1_leavesDanglingReference 9 = .ok (.iconst 1, 1) := by decide +kernel
theorem dX1_leavesDanglingReference_10 : decode cX1_leavesDanglingReference 10 = .ok (.invokevirtual 56, 3) := by decide +kernel
theorem dX1_leavesDanglingReference_13 : decode cX1_leavesDanglingReference 13 = .ok (.ifCond .eq 7, 3) := by decide +kernel
theorem dX1_leavesDanglingReference_16 : decode cX1_leavesDanglingReference 16 = .ok (.iconst 1, 1) := by decide +kernel
theorem dX1_leavesDanglingReference_17 : decode cX1_leavesDanglingReference 17 = .ok (.goto 4, 3) := by decide +kernel
theorem dX1_leavesDanglingReference_20 : decode cX1_leavesDanglingReference 20 = .ok (.iconst 0, 1) := by decide +kernel
theorem dX1_leavesDanglingReference_21 : decode cX1_leavesDanglingReference 21 = .ok (.ireturn, 1) := by decide +kernel
set_option maxRecDepth 20000 in
theorem ggX1_leavesDanglingIn_X4_sizeOf : GoodIn wsX1_leavesDanglingIn wsX4_sizeOf := goodIn_r _ [6, 7, 8, 9, 5, 10, 11, 12, 13, 14, 15, 16, 17, 18, 93, 94, 95, 96, 97, 98] (by decide +kernel) (by decide +kernel)
set_option maxRecDepth 20000 in
theorem gX1_leavesDanglingIn_X4_sizeOf : GoodIn wsX1_leavesDanglingIn (wsV RX1 30 RX4 yX4_sizeOf wsX4_sizeOf) := goodIn_app (goodIn_of _ (by decide +kernel)) ggX1_leavesDanglingIn_X4_sizeOf
set_option maxRecDepth 20000 in
theorem ggX1_leavesDanglingIn_X1_referenceBehind : GoodIn wsX1_leavesDanglingIn wsX1_referenceBehind := goodIn_r _ [23, 1, 24, 25, 26, 27, 28, 5, 29, 30, 31, 7, 8, 9, 10, 11, 12, 13, 14, 15, 16, 17, 18, 32, 33, 34, 35, 36, 37, 38, 39, 40, 41, 42, 43, 44, 45, 46, 47, 48, 49, 50, 51, 52, 53, 54, 55, 56, 57, 58, 59, 60, 61, 62, 63, 64, 65, 66, 22, 67, 68, 69, 70, 71, 72, 73, 74, 75, 76, 77, 78, 79, 89, 90, 91, 92, 99, 100, 101, 102, 103, 104, 105, 106, 107, 108, 109, 110, 93, 94, 95, 96, 97, 98, 111, 112] (by decide +kernel) (by decide +kernel)
set_option maxRecDepth 20000 in
theorem gX1_leavesDanglingIn_X1_referenceBehind : GoodIn wsX1_leavesDanglingIn (wsV RX1 59 RX1 yX1_referenceBehind wsX1_referenceBehind) := goodIn_app (goodIn_of _ (by decide +kernel)) ggX1_leavesDanglingIn_X1_referenceBehind
set_option maxRecDepth 20000 in
theorem ggX1_leavesDanglingIn_X1_isThereBehind : GoodIn wsX1_leavesDanglingIn wsX1_isThereBehind := goodIn_r _ [83, 1, 84, 85, 26, 27, 28, 5, 29, 30, 31, 7, 8, 9, 10, 11, 12, 13, 14, 15, 16, 17, 18, 32, 33, 34, 35, 36, 37, 38, 39, 40, 41, 42, 43, 44, 45, 46, 47, 48, 49, 50, 51, 52, 53, 54, 55, 64, 65, 66, 22, 67, 68, 69, 70, 71, 72, 73, 74, 75, 76, 77, 78, 79, 89, 90, 91, 92, 99, 100, 101, 102, 103, 104, 105, 106, 107, 108, 109, 110, 93, 94, 95, 96, 97, 98, 111, 112] (by decide +kernel) (by decide +kernel)
set_option maxRecDepth 20000 in
theorem gX1_leavesDanglingIn_X1_isThereBehind : GoodIn wsX1_leavesDanglingIn (wsV RX1 63 RX1 yX1_isThereBehind wsX1_isThereBehind) := goodIn_app (goodIn_of _ (by decide +kernel)) ggX1_leavesDanglingIn_X1_isThereBehind
set_option maxRecDepth 20000 in
theorem ggX1_leavesDanglingIn_X6_otherKind : GoodIn wsX1_leavesDanglingIn wsX6_otherKind := goodIn_r _ [88] (by decide +kernel) (by decide +kernel)
set_option maxRecDepth 20000 in
theorem gX1_leavesDanglingIn_X6_otherKind_n67 : GoodIn wsX1_leavesDanglingIn (wsX6_otherKind) := ggX1_leavesDanglingIn_X6_otherKind
theorem dX1_leavesDanglingIn_0 : decode cX1_leavesDanglingIn 0 = .ok (.iconst 0, 1) := by decide +kernel
theorem dX1_leavesDanglingIn_1 : decode cX1_leavesDanglingIn 1 = .ok (.istore_n 2, 1) := by decide +kernel
theorem dX1_leavesDanglingIn_2 : decode cX1_leavesDanglingIn 2 = .ok (.iload_n 2, 1) := by decide +kernel
theorem dX1_leavesDanglingIn_3 : decode cX1_leavesDanglingIn 3 = .ok (.aload_n 0, 1) := by decide +kernel
theorem dX1_leavesDanglingIn_4 : decode cX1_leavesDanglingIn 4 = .ok (.getfield 9, 3) := by decide +kernel
theorem dX1_leavesDanglingIn_7 : decode cX1_leavesDanglingIn 7 = .ok (.iload_n 1, 1) := by decide +kernel
theorem dX1_leavesDanglingIn_8 : decode cX1_leavesDanglingIn 8 = .ok (.invokevirtual 30, 3) := by decide +kernel
theorem dX1_leavesDanglingIn_11 : decode cX1_leavesDanglingIn 11 = .ok (.if_icmp .ge 44, 3) := by decide +kernel
theorem dX1_leavesDanglingIn_14 : decode cX1_leavesDanglingIn 14 = .ok (.aload_n 0, 1) := by decide +kernel
theorem dX1_leavesDanglingIn_15 : decode cX1_leavesDanglingIn 15 = .ok (.iload_n 1, 1) := by decide +kernel
theorem dX1_leavesDanglingIn_16 : decode cX1_leavesDanglingIn 16 = .ok (.iload_n 2, 1) := by decide +kernel
theorem dX1_leavesDanglingIn_17 : decode cX1_leavesDanglingIn 17 = .ok (.invokevirtual 59, 3) := by decide +kernel
theorem dX1_leavesDanglingIn_20 : decode cX1_leavesDanglingIn 20 = .ok (.istore_n 3, 1) := by decide +kernel
theorem dX1_leavesDanglingIn_21 : decode cX1_leavesDanglingIn 21 = .ok (.aload_n 0, 1) := by decide +kernel
theorem dX1_leavesDanglingIn_22 : decode cX1_leavesDanglingIn 22 = .ok (.iload_n 1, 1) := by decide +kernel
theorem dX1_leavesDanglingIn_23 : decode cX1_leavesDanglingIn 23 = .ok (.iload_n 2, 1) := by decide +kernel
theorem dX1_leavesDanglingIn_24 : decode cX1_leavesDanglingIn 24 = .ok (.invokevirtual 63, 3) := by decide +kernel
theorem dX1_leavesDanglingIn_27 : decode cX1_leavesDanglingIn 27 = .ok (.ifCond .eq 22, 3) := by decide +kernel
theorem dX1_leavesDanglingIn_30 : decode cX1_leavesDanglingIn 30 = .ok (.iload_n 3, 1) := by decide +kernel
theorem dX1_leavesDanglingIn_31 : decode cX1_leavesDanglingIn 31 = .ok (.iconst (-1), 1) := by decide +kernel
theorem dX1_leavesDanglingIn_32 : decode cX1_leavesDanglingIn 32 = .ok (.if_icmp .eq 17, 3) := by decide +kernel
theorem dX1_leavesDanglingIn_35 : decode cX1_leavesDanglingIn 35 = .ok (.aload_n 0, 1) := by decide +kernel
theorem dX1_leavesDanglingIn_36 : decode cX1_leavesDanglingIn 36 = .ok (.iload_n 1, 1) := by decide +kernel
theorem dX1_leavesDanglingIn_37 : decode cX1_leavesDanglingIn 37 = .ok (.invokestatic 67, 3) := by decide +kernel
theorem dX1_leavesDanglingIn_40 : decode cX1_leavesDanglingIn 40 = .ok (.iload_n 3, 1) := by decide +kernel
theorem dX1_leavesDanglingIn_41 : decode cX1_leavesDanglingIn 41 = .ok (.invokevirtual 63, 3) := by decide +kernel
theorem dX1_leavesDanglingIn_44 : decode cX1_leavesDanglingIn 44 = .ok (.ifCond .ne 5, 3) := by decide +kernel
theorem dX1_leavesDanglingIn_47 : decode cX1_leavesDanglingIn 47 = .ok (.iconst 1, 1) := by decide +kernel
theorem dX1_leavesDanglingIn_48 : decode cX1_leavesDanglingIn 48 = .ok (.ireturn, 1) := by decide +kernel
theorem dX1_leavesDanglingIn_49 : decode cX1_leavesDanglingIn 49 = .ok (.iinc 2 1, 3) := by decide +kernel
theorem dX1_leavesDanglingIn_52 : decode cX1_leavesDanglingIn 52 = .ok (.goto (-50), 3) := by decide +kernel
theorem dX1_leavesDanglingIn_55 : decode cX1_leavesDanglingIn 55 = .ok (.iconst 0, 1) := by decide +kernel
theorem dX1_leavesDanglingIn_56 : decode cX1_leavesDanglingIn 56 = .ok (.ireturn, 1) := by decide +kernel
set_option maxRecDepth 20000 in
theorem ggX1_isThereBehind_X4_entityAt : GoodIn wsX1_isThereBehind wsX4_entityAt := goodIn_r _ [8, 9, 10, 11, 12, 13, 7, 14, 15, 16, 17, 18, 19, 20, 21, 22, 23, 24, 25, 26, 27, 28, 29, 30, 31, 32, 33, 34, 35, 36, 37, 38, 39, 80, 81, 82, 83, 84, 85] (by decide +kernel) (by decide +kernel)
set_option maxRecDepth 20000 in
theorem gX1_isThereBehind_X4_entityAt : GoodIn wsX1_isThereBehind (wsV RX1 36 RX4 yX4_entityAt wsX4_entityAt) := goodIn_app (goodIn_of _ (by decide +kernel)) ggX1_isThereBehind_X4_entityAt
set_option maxRecDepth 20000 in
theorem ggX1_isThereBehind_X0_isNew : GoodIn wsX1_isThereBehind wsX0_isNew := goodIn_r _ [44, 45, 46, 68, 69, 70, 71, 72, 73, 74, 75] (by decide +kernel) (by decide +kernel)
set_option maxRecDepth 20000 in
theorem gX1_isThereBehind_X0_isNew : GoodIn wsX1_isThereBehind (wsV RX1 70 RX0 yX0_isNew wsX0_isNew) := goodIn_app (goodIn_of _ (by decide +kernel)) ggX1_isThereBehind_X0_isNew
set_option maxRecDepth 20000 in
theorem ggX1_isThereBehind_X1_tableFor : GoodIn wsX1_isThereBehind wsX1_tableFor := goodIn_r _ [51, 52, 53, 64, 65, 66, 67] (by decide +kernel) (by decide +kernel)
set_option maxRecDepth 20000 in
theorem gX1_isThereBehind_X1_tableFor : GoodIn wsX1_isThereBehind (wsV RX1 40 RX1 yX1_tableFor wsX1_tableFor) := goodIn_app (goodIn_of _ (by decide +kernel)) ggX1_isThereBehind_X1_tableFor
set_option maxRecDepth 20000 in
theorem ggX1_isThereBehind_X5_rowAt : GoodIn wsX1_isThereBehind wsX5_rowAt := goodIn_r _ [58, 59, 60, 61, 62, 18, 19, 20, 21, 22, 63, 24, 25, 26, 27, 28, 29, 30, 31, 32, 33, 34, 35, 36, 37, 38, 39, 86, 87, 83, 84, 85] (by decide +kernel) (by decide +kernel)
set_option maxRecDepth 20000 in
theorem gX1_isThereBehind_X5_rowAt : GoodIn wsX1_isThereBehind (wsV RX1 44 RX5 yX5_rowAt wsX5_rowAt) := goodIn_app (goodIn_of _ (by decide +kernel)) ggX1_isThereBehind_X5_rowAt
theorem dX1_isThereBehind_0 : decode cX1_isThereBehind 0 = .ok (.aload_n 0, 1) := by decide +kernel
theorem dX1_isThereBehind_1 : decode cX1_isThereBehind 1 = .ok (.getfield 9, 3) := by decide +kernel
theorem dX1_isThereBehind_4 : decode cX1_isThereBehind 4 = .ok (.iload_n 1, 1) := by decide +kernel
theorem dX1_isThereBehind_5 : decode cX1_isThereBehind 5 = .ok (.iload_n 2, 1) := by decide +kernel
theorem dX1_isThereBehind_6 : decode cX1_isThereBehind 6 = .ok (.invokevirtual 36, 3) := by decide +kernel
theorem dX1_isThereBehind_9 : decode cX1_isThereBehind 9 = .ok (.astore_n 3, 1) := by decide +kernel
theorem dX1_isThereBehind_10 : decode cX1_isThereBehind 10 = .ok (.aload_n 3, 1) := by decide +kernel
theorem dX1_isThereBehind_11 : decode cX1_isThereBehind 11 = .ok (.invokevirtual 70, 3) := by decide +kernel
theorem dX1_isThereBehind_14 : decode cX1_isThereBehind 14 = .ok (.ifCond .ne 25, 3) := by decide +kernel
theorem dX1_isThereBehind_17 : decode cX1_isThereBehind 17 = .ok (.aload_n 3, 1) := by decide +kernel
theorem dX1_isThereBehind_18 : decode cX1_isThereBehind 18 = .ok (.getfield 74, 3) := by decide +kernel
theorem dX1_isThereBehind_21 : decode cX1_isThereBehind 21 = .ok (.ifCond .ne 22, 3) := by decide +kernel
theorem dX1_isThereBehind_24 : decode cX1_isThereBehind 24 = .ok (.aload_n 0, 1) := by decide +kernel
theorem dX1_isThereBehind_25 : decode cX1_isThereBehind 25 = .ok (.iload_n 1, 1) := by decide +kernel
theorem dX1_isThereBehind_26 : decode cX1_isThereBehind 26 = .ok (.invokevirtual 40, 3) := by decide +kernel
theorem dX1_isThereBehind_29 : decode cX1_isThereBehind 29 = .ok (.iload_n 2, 1) := by decide +kernel
theorem dX1_isThereBehind_30 : decode cX1_isThereBehind 30 = .ok (.invokevirtual 44, 3) := by decide +kernel
theorem dX1_isThereBehind_33 : decode cX1_isThereBehind 33 = .ok (.getfield 78, 3) := by decide +kernel
theorem dX1_isThereBehind_36 : decode cX1_isThereBehind 36 = .ok (.ifCond .eq 7, 3) := by decide +kernel
theorem dX1_isThereBehind_39 : decode cX1_isThereBehind 39 = .ok (.iconst 1, 1) := by decide +kernel
theorem dX1_isThereBehind_40 : decode cX1_isThereBehind 40 = .ok (.goto 4, 3) := by decide +kernel
theorem dX1_isThereBehind_43 : decode cX1_isThereBehind 43 = .ok (.iconst 0, 1) := by decide +kernel
theorem dX1_isThereBehind_44 : decode cX1_isThereBehind 44 = .ok (.ireturn, 1) := by decide +kernel
set_option maxRecDepth 20000 in
theorem ggX1_referenceBehind_X4_entityAt : GoodIn wsX1_referenceBehind wsX4_entityAt := goodIn_r _ [8, 9, 10, 11, 12, 13, 7, 14, 15, 16, 17, 18, 19, 20, 21, 22, 23, 24, 25, 26, 27, 28, 29, 30, 31, 32, 33, 34, 35, 36, 37, 38, 39, 88, 89, 90, 91, 92, 93] (by decide +kernel) (by decide +kernel)
set_option maxRecDepth 20000 in
theorem gX1_referenceBehind_X4_entityAt : GoodIn wsX1_referenceBehind (wsV RX1 36 RX4 yX4_entityAt wsX4_entityAt) := goodIn_app (goodIn_of _ (by decide +kernel)) ggX1_referenceBehind_X4_entityAt
set_option maxRecDepth 20000 in
theorem ggX1_referenceBehind_X0_isNew : GoodIn wsX1_referenceBehind wsX0_isNew := goodIn_r _ [44, 45, 46, 76, 77, 78, 79, 80, 81, 82, 83] (by decide +kernel) (by decide +kernel)
set_option maxRecDepth 20000 in
theorem gX1_referenceBehind_X0_isNew : GoodIn wsX1_referenceBehind (wsV RX1 70 RX0 yX0_isNew wsX0_isNew) := goodIn_app (goodIn_of _ (by decide +kernel)) ggX1_referenceBehind_X0_isNew
set_option maxRecDepth 20000 in
theorem ggX1_referenceBehind_X0_isChanged : GoodIn wsX1_referenceBehind wsX0_isChanged := goodIn_r _ [50, 46, 51, 52, 53, 54, 76, 77, 78, 79, 80, 81, 82, 83] (by decide +kernel) (by decide +kernel)
set_option maxRecDepth 20000 in
theorem gX1_referenceBehind_X0_isChanged : GoodIn wsX1_referenceBehind (wsV RX1 83 RX0 yX0_isChanged wsX0_isChanged) := goodIn_app (goodIn_of _ (by decide +kernel)) ggX1_referenceBehind_X0_isChanged
set_option maxRecDepth 20000 in
theorem ggX1_referenceBehind_X1_tableFor : GoodIn wsX1_referenceBehind wsX1_tableFor := goodIn_r _ [59, 60, 61, 72, 73, 74, 75] (by decide +kernel) (by decide +kernel)
set_option maxRecDepth 20000 in
theorem gX1_referenceBehind_X1_tableFor : GoodIn wsX1_referenceBehind (wsV RX1 40 RX1 yX1_tableFor wsX1_tableFor) := goodIn_app (goodIn_of _ (by decide +kernel)) ggX1_referenceBehind_X1_tableFor
set_option maxRecDepth 20000 in
theorem ggX1_referenceBehind_X5_rowAt : GoodIn wsX1_referenceBehind wsX5_rowAt := goodIn_r _ [66, 67, 68, 69, 70, 18, 19, 20, 21, 22, 71, 24, 25, 26, 27, 28, 29, 30, 31, 32, 33, 34, 35, 36, 37, 38, 39, 94, 95, 91, 92, 93] (by decide +kernel) (by decide +kernel)
set_option maxRecDepth 20000 in
theorem gX1_referenceBehind_X5_rowAt : GoodIn wsX1_referenceBehind (wsV RX1 44 RX5 yX5_rowAt wsX5_rowAt) := goodIn_app (goodIn_of _ (by decide +kernel)) ggX1_referenceBehind_X5_rowAt
theorem dX1_referenceBehind_0 : decode cX1_referenceBehind 0 = .ok (.aload_n 0, 1) := by decide +kernel
theorem dX1_referenceBehind_1 : decode cX1_referenceBehind 1 = .ok (.getfield 9, 3) := by decide +kernel
theorem dX1_referenceBehind_4 : decode cX1_referenceBehind 4 = .ok (.iload_n 1, 1) := by decide +kernel
theorem dX1_referenceBehind_5 : decode cX1_referenceBehind 5 = .ok (.iload_n 2, 1) := by decide +kernel
theorem dX1_referenceBehind_6 : decode cX1_referenceBehind 6 = .ok (.invokevirtual 36, 3) := by decide +kernel
theorem dX1_referenceBehind_9 : decode cX1_referenceBehind 9 = .ok (.astore_n 3, 1) := by decide +kernel
theorem dX1_referenceBehind_10 : decode cX1_referenceBehind 10 = .ok (.aload_n 3, 1) := by decide +kernel
theorem dX1_referenceBehind_11 : decode cX1_referenceBehind 11 = .ok (.invokevirtual 70, 3) := by decide +kernel
theorem dX1_referenceBehind_14 : decode cX1_referenceBehind 14 = .ok (.ifCond .ne 10, 3) := by decide +kernel
theorem dX1_referenceBehind_17 : decode cX1_referenceBehind 17 = .ok (.aload_n 3, 1) := by decide +kernel
theorem dX1_referenceBehind_18 : decode cX1_referenceBehind 18 = .ok (.invokevirtual 83, 3) := by decide +kernel
theorem dX1_referenceBehind_21 : decode cX1_referenceBehind 21 = .ok (.ifCond .eq 10, 3) := by decide +kernel
theorem dX1_referenceBehind_24 : decode cX1_referenceBehind 24 = .ok (.aload_n 3, 1) := by decide +kernel
theorem dX1_referenceBehind_25 : decode cX1_referenceBehind 25 = .ok (.getfield 86, 3) := by decide +kernel
theorem dX1_referenceBehind_28 : decode cX1_referenceBehind 28 = .ok (.goto 15, 3) := by decide +kernel
theorem dX1_referenceBehind_31 : decode cX1_referenceBehind 31 = .ok (.aload_n 0, 1) := by decide +kernel
theorem dX1_referenceBehind_32 : decode cX1_referenceBehind 32 = .ok (.iload_n 1, 1) := by decide +kernel
theorem dX1_referenceBehind_33 : decode cX1_referenceBehind 33 = .ok (.invokevirtual 40, 3) := by decide +kernel
theorem dX1_referenceBehind_36 : decode cX1_referenceBehind 36 = .ok (.iload_n 2, 1) := by decide +kernel
theorem dX1_referenceBehind_37 : decode cX1_referenceBehind 37 = .ok (.invokevirtual 44, 3) := by decide +kernel
theorem dX1_referenceBehind_40 : decode cX1_referenceBehind 40 = .ok (.getfield 90, 3) := by decide +kernel
theorem dX1_referenceBehind_43 : decode cX1_referenceBehind 43 = .ok (.ireturn, 1) := by decide +kernel
set_option maxRecDepth 20000 in
theorem ggX1_doWrites_X1_insertAuthors : GoodIn wsX1_doWrites wsX1_insertAuthors := goodIn_r _ [5, 6, 7, 8, 9, 10, 11, 12, 13, 14, 15, 16, 17, 18, 19, 20, 21, 22, 23, 24, 25, 26, 27, 28, 29, 30, 31, 32, 33, 34, 35, 36, 37, 38, 39, 40, 41, 42, 43, 44, 45, 46, 47, 48, 49, 50, 51, 52, 53, 54, 55, 56, 57, 58, 59, 60, 61, 62, 63, 64, 65, 66, 67, 68, 69, 4, 70, 71, 72, 73, 74, 75, 76, 77, 78, 79, 80, 81, 82, 83, 84, 85, 86, 87, 88, 89, 90, 91, 92, 93, 94, 95, 96, 97, 98, 99, 100, 101, 102, 103, 104, 105, 106, 107, 108, 109, 110, 111, 112, 113, 114, 115, 116, 117, 118, 119, 120, 121, 122, 123, 152, 153, 154, 155, 156, 157, 158, 159, 160, 161, 162, 163, 164, 165, 166, 167, 168, 169, 170, 171, 172, 173, 174, 175, 176, 177, 178] (by decide +kernel) (by decide +kernel)
set_option maxRecDepth 20000 in
theorem gX1_doWrites_X1_insertAuthors : GoodIn wsX1_doWrites (wsV RX1 91 RX1 yX1_insertAuthors wsX1_insertAuthors) := goodIn_app (goodIn_of _ (by decide +kernel)) ggX1_doWrites_X1_insertAuthors
set_option maxRecDepth 20000 in
theorem ggX1_doWrites_X1_insertBooks : GoodIn wsX1_doWrites wsX1_insertBooks := goodIn_r _ [127, 6, 8, 10, 11, 12, 13, 14, 15, 16, 17, 18, 19, 20, 21, 22, 23, 24, 25, 26, 27, 28, 29, 30, 31, 32, 33, 34, 35, 36, 37, 38, 39, 40, 41, 42, 43, 44, 45, 46, 47, 48, 49, 50, 51, 52, 53, 54, 55, 56, 67, 68, 69, 4, 70, 71, 72, 73, 74, 75, 76, 77, 7, 57, 58, 59, 60, 61, 62, 63, 64, 65, 66, 78, 79, 80, 81, 82, 83, 84, 85, 86, 87, 88, 89, 90, 91, 92, 93, 94, 95, 96, 97, 98, 99, 100, 101, 102, 103, 104, 105, 106, 107, 108, 109, 110, 111, 112, 113, 114, 115, 116, 117, 118, 119, 120, 121, 122, 123, 152, 153, 154, 155, 156, 157, 158, 159, 160, 161, 162, 163, 168, 169, 170, 171, 172, 173, 174, 175, 164, 165, 166, 167, 176, 177, 178] (by decide +kernel) (by decide +kernel)
set_option maxRecDepth 20000 in
theorem gX1_doWrites_X1_insertBooks : GoodIn wsX1_doWrites (wsV RX1 94 RX1 yX1_insertBooks wsX1_insertBooks) := goodIn_app (goodIn_of _ (by decide +kernel)) ggX1_doWrites_X1_insertBooks
set_option maxRecDepth 20000 in
theorem ggX1_doWrites_X1_updateChanged : GoodIn wsX1_doWrites wsX1_updateChanged := goodIn_r _ [131, 6, 71, 8, 72, 10, 11, 12, 13, 14, 15, 16, 17, 18, 19, 20, 21, 22, 23, 24, 25, 26, 27, 28, 29, 30, 31, 32, 33, 34, 35, 36, 37, 38, 39, 40, 41, 42, 43, 44, 45, 46, 47, 48, 49, 132, 133, 134, 53, 135, 56, 136, 119, 137, 121, 73, 74, 75, 4, 76, 77, 7, 57, 58, 59, 60, 61, 62, 63, 64, 65, 66, 138, 139, 140, 81, 141, 84, 85, 86, 87, 88, 89, 90, 91, 92, 93, 94, 95, 96, 97, 98, 99, 100, 101, 102, 103, 104, 105, 106, 107, 108, 109, 110, 111, 112, 113, 114, 115, 116, 117, 118, 120, 122, 123, 152, 153, 154, 155, 156, 157, 158, 159, 160, 161, 162, 163, 168, 169, 170, 171, 172, 173, 174, 175, 164, 165, 166, 167, 176, 177, 178] (by decide +kernel) (by decide +kernel)
set_option maxRecDepth 20000 in
theorem gX1_doWrites_X1_updateChanged : GoodIn wsX1_doWrites (wsV RX1 97 RX1 yX1_updateChanged wsX1_updateChanged) := goodIn_app (goodIn_of _ (by decide +kernel)) ggX1_doWrites_X1_updateChanged
set_option maxRecDepth 20000 in
theorem ggX1_doWrites_X1_deleteStruckOut : GoodIn wsX1_doWrites wsX1_deleteStruckOut := goodIn_r _ [145, 6, 146, 9, 72, 10, 11, 12, 13, 14, 15, 16, 17, 18, 19, 20, 21, 22, 23, 24, 25, 26, 27, 28, 29, 30, 31, 32, 33, 34, 35, 36, 37, 38, 39, 40, 41, 42, 43, 44, 45, 46, 47, 48, 49, 73, 74, 75, 4, 76, 77, 7, 57, 58, 59, 60, 61, 62, 63, 64, 65, 66, 87, 88, 89, 90, 91, 92, 93, 94, 95, 96, 97, 98, 99, 100, 101, 102, 103, 104, 105, 106, 107, 108, 109, 110, 111, 112, 113, 147, 148, 149, 53, 150, 55, 151, 56, 152, 153, 154, 155, 156, 157, 158, 159, 160, 161, 162, 163, 164, 165, 166, 167, 168, 169, 170, 171, 172, 173, 174, 175, 176, 177, 178] (by decide +kernel) (by decide +kernel)
set_option maxRecDepth 20000 in
theorem gX1_doWrites_X1_deleteStruckOut : GoodIn wsX1_doWrites (wsV RX1 101 RX1 yX1_deleteStruckOut wsX1_deleteStruckOut) := goodIn_app (goodIn_of _ (by decide +kernel)) ggX1_doWrites_X1_deleteStruckOut
theorem dX1_doWrites_0 : decode cX1_doWrites 0 = .ok (.aload_n 0, 1) := by decide +kernel
theorem dX1_doWrites_1 : decode cX1_doWrites 1 = .ok (.invokevirtual 91, 3) := by decide +kernel
theorem dX1_doWrites_4 : decode cX1_doWrites 4 = .ok (.aload_n 0, 1) := by decide +kernel
theorem dX1_doWrites_5 : decode cX1_doWrites 5 = .ok (.invokevirtual 94, 3) := by decide +kernel
theorem dX1_doWrites_8 : decode cX1_doWrites 8 = .ok (.aload_n 0, 1) := by decide +kernel
theorem dX1_doWrites_9 : decode cX1_doWrites 9 = .ok (.iconst 0, 1) := by decide +kernel
theorem dX1_doWrites_10 : decode cX1_doWrites 10 = .ok (.invokevirtual 97, 3) := by decide +kernel
theorem dX1_doWrites_13 : decode cX1_doWrites 13 = .ok (.aload_n 0, 1) := by decide +kernel
theorem dX1_doWrites_14 : decode cX1_doWrites 14 = .ok (.iconst 1, 1) := by decide +kernel
theorem dX1_doWrites_15 : decode cX1_doWrites 15 = .ok (.invokevirtual 97, 3) := by decide +kernel
theorem dX1_doWrites_18 : decode cX1_doWrites 18 = .ok (.aload_n 0, 1) := by decide +kernel
theorem dX1_doWrites_19 : decode cX1_doWrites 19 = .ok (.iconst 1, 1) := by decide +kernel
theorem dX1_doWrites_20 : decode cX1_doWrites 20 = .ok (.invokevirtual 101, 3) := by decide +kernel
theorem dX1_doWrites_23 : decode cX1_doWrites 23 = .ok (.aload_n 0, 1) := by decide +kernel
theorem dX1_doWrites_24 : decode cX1_doWrites 24 = .ok (.iconst 0, 1) := by decide +kernel
theorem dX1_doWrites_25 : decode cX1_doWrites 25 = .ok (.invokevirtual 101, 3) := by decide +kernel
theorem dX1_doWrites_28 : decode cX1_doWrites 28 = .ok (.return_, 1) := by decide +kernel
set_option maxRecDepth 20000 in
theorem ggX1_insertAuthors_X4_sizeOf : GoodIn wsX1_insertAuthors wsX4_sizeOf := goodIn_r _ [9, 10, 11, 12, 8, 13, 14, 15, 16, 17, 18, 19, 20, 21, 136, 137, 138, 139, 140, 141] (by decide +kernel) (by decide +kernel)
set_option maxRecDepth 20000 in
theorem gX1_insertAuthors_X4_sizeOf : GoodIn wsX1_insertAuthors (wsV RX1 30 RX4 yX4_sizeOf wsX4_sizeOf) := goodIn_app (goodIn_of _ (by decide +kernel)) ggX1_insertAuthors_X4_sizeOf
set_option maxRecDepth 20000 in
theorem ggX1_insertAuthors_X4_entityAt : GoodIn wsX1_insertAuthors wsX4_entityAt := goodIn_r _ [25, 26, 27, 10, 11, 12, 8, 13, 14, 15, 16, 17, 18, 19, 20, 21, 28, 29, 30, 31, 32, 33, 34, 35, 36, 37, 38, 39, 40, 41, 42, 43, 44, 136, 137, 138, 139, 140, 141] (by decide +kernel) (by decide +kernel)
set_option maxRecDepth 20000 in
theorem gX1_insertAuthors_X4_entityAt : GoodIn wsX1_insertAuthors (wsV RX1 36 RX4 yX4_entityAt wsX4_entityAt) := goodIn_app (goodIn_of _ (by decide +kernel)) ggX1_insertAuthors_X4_entityAt
set_option maxRecDepth 20000 in
theorem ggX1_insertAuthors_X0_isNew : GoodIn wsX1_insertAuthors wsX0_isNew := goodIn_r _ [49, 50, 51, 124, 125, 126, 127, 128, 129, 130, 131] (by decide +kernel) (by decide +kernel)
set_option maxRecDepth 20000 in
theorem gX1_insertAuthors_X0_isNew : GoodIn wsX1_insertAuthors (wsV RX1 70 RX0 yX0_isNew wsX0_isNew) := goodIn_app (goodIn_of _ (by decide +kernel)) ggX1_insertAuthors_X0_isNew
set_option maxRecDepth 20000 in
theorem ggX1_insertAuthors_X5_rowAt : GoodIn wsX1_insertAuthors wsX5_rowAt := goodIn_r _ [56, 57, 58, 59, 60, 17, 18, 19, 20, 21, 61, 29, 30, 31, 32, 33, 34, 35, 36, 37, 38, 39, 40, 41, 42, 43, 44, 142, 143, 139, 140, 141] (by decide +kernel) (by decide +kernel)
set_option maxRecDepth 20000 in
theorem gX1_insertAuthors_X5_rowAt : GoodIn wsX1_insertAuthors (wsV RX1 44 RX5 yX5_rowAt wsX5_rowAt) := goodIn_app (goodIn_of _ (by decide +kernel)) ggX1_insertAuthors_X5_rowAt
set_option maxRecDepth 20000 in
theorem ggX1_insertAuthors_X1_insert : GoodIn wsX1_insertAuthors wsX1_insert := goodIn_r _ [66, 67, 68, 69, 70, 71, 65, 72, 73, 2, 52, 53, 54, 55, 56, 57, 58, 59, 60, 17, 18, 19, 20, 21, 61, 29, 30, 31, 32, 33, 34, 35, 36, 37, 38, 39, 40, 41, 42, 43, 44, 74, 75, 76, 77, 78, 79, 80, 81, 82, 83, 84, 85, 86, 87, 88, 89, 90, 91, 92, 93, 94, 95, 96, 97, 98, 99, 100, 101, 102, 103, 104, 105, 106, 107, 108, 109, 110, 111, 112, 48, 113, 51, 114, 115, 116, 117, 118, 119, 124, 125, 126, 127, 128, 129, 130, 131, 120, 121, 122, 123, 142, 143, 139, 140, 141, 132, 133, 134, 135, 144, 145, 146] (by decide +kernel) (by decide +kernel)
set_option maxRecDepth 20000 in
theorem gX1_insertAuthors_X1_insert : GoodIn wsX1_insertAuthors (wsV RX1 104 RX1 yX1_insert wsX1_insert) := goodIn_app (goodIn_of _ (by decide +kernel)) ggX1_insertAuthors_X1_insert
theorem dX1_insertAuthors_0 : decode cX1_insertAuthors 0 = .ok (.iconst 0, 1) := by decide +kernel
theorem dX1_insertAuthors_1 : decode cX1_insertAuthors 1 = .ok (.istore_n 1, 1) := by decide +kernel
theorem dX1_insertAuthors_2 : decode cX1_insertAuthors 2 = .ok (.iload_n 1, 1) := by decide +kernel
theorem dX1_insertAuthors_3 : decode cX1_insertAuthors 3 = .ok (.aload_n 0, 1) := by decide +kernel
theorem dX1_insertAuthors_4 : decode cX1_insertAuthors 4 = .ok (.getfield 9, 3) := by decide +kernel
theorem dX1_insertAuthors_7 : decode cX1_insertAuthors 7 = .ok (.iconst 0, 1) := by decide +kernel
theorem dX1_insertAuthors_8 : decode cX1_insertAuthors 8 = .ok (.invokevirtual 30, 3) := by decide +kernel
theorem dX1_insertAuthors_11 : decode cX1_insertAuthors 11 = .ok (.if_icmp .ge 60, 3) := by decide +kernel
theorem dX1_insertAuthors_14 : decode cX1_insertAuthors 14 = .ok (.aload_n 0, 1) := by decide +kernel
theorem dX1_insertAuthors_15 : decode cX1_insertAuthors 15 = .ok (.getfield 9, 3) := by decide +kernel
theorem dX1_insertAuthors_18 : decode cX1_insertAuthors 18 = .ok (.iconst 0, 1) := by decide +kernel
theorem dX1_insertAuthors_19 : decode cX1_insertAuthors 19 = .ok (.iload_n 1, 1) := by decide +kernel
theorem dX1_insertAuthors_20 : decode cX1_insertAuthors 20 = .ok (.invokevirtual 36, 3) := by decide +kernel
theorem dX1_insertAuthors_23 : decode cX1_insertAuthors 23 = .ok (.astore_n 2, 1) := by decide +kernel
theorem dX1_insertAuthors_24 : decode cX1_insertAuthors 24 = .ok (.aload_n 2, 1) := by decide +kernel
theorem dX1_insertAuthors_25 : decode cX1_insertAuthors 25 = .ok (.invokevirtual 70, 3) := by decide +kernel
theorem dX1_insertAuthors_28 : decode cX1_insertAuthors 28 = .ok (.ifCond .eq 37, 3) := by decide +kernel
theorem dX1_insertAuthors_31 : decode cX1_insertAuthors 31 = .ok (.aload_n 0, 1) := by decide +kernel
theorem dX1_insertAuthors_32 : decode cX1_insertAuthors 32 = .ok (.getfield 19, 3) := by decide +kernel
theorem dX1_insertAuthors_35 : decode cX1_insertAuthors 35 = .ok (.aload_n 2, 1) := by decide +kernel
theorem dX1_insertAuthors_36 : decode cX1_insertAuthors 36 = .ok (.getfield 86, 3) := by decide +kernel
theorem dX1_insertAuthors_39 : decode cX1_insertAuthors 39 = .ok (.invokevirtual 44, 3) := by decide +kernel
theorem dX1_insertAuthors_42 : decode cX1_insertAuthors 42 = .ok (.getfield 78, 3) := by decide +kernel
theorem dX1_insertAuthors_45 : decode cX1_insertAuthors 45 = .ok (.istore_n 3, 1) := by decide +kernel
theorem dX1_insertAuthors_46 : decode cX1_insertAuthors 46 = .ok (.aload_n 0, 1) := by decide +kernel
theorem dX1_insertAuthors_47 : decode cX1_insertAuthors 47 = .ok (.aload_n 2, 1) := by decide +kernel
theorem dX1_insertAuthors_48 : decode cX1_insertAuthors 48 = .ok (.iconst 0, 1) := by decide +kernel
theorem dX1_insertAuthors_49 : decode cX1_insertAuthors 49 = .ok (.iload_n 1, 1) := by decide +kernel
theorem dX1_insertAuthors_50 : decode cX1_insertAuthors 50 = .ok (.iload_n 3, 1) := by decide +kernel
theorem dX1_insertAuthors_51 : decode cX1_insertAuthors 51 = .ok (.ifCond .eq 10, 3) := by decide +kernel
theorem dX1_insertAuthors_54 : decode cX1_insertAuthors 54 = .ok (.aload_n 2, 1) := by decide +kernel
theorem dX1_insertAuthors_55 : decode cX1_insertAuthors 55 = .ok (.getfield 86, 3) := by decide +kernel
theorem dX1_insertAuthors_58 : decode cX1_insertAuthors 58 = .ok (.goto 4, 3) := by decide +kernel
theorem dX1_insertAuthors_61 : decode cX1_insertAuthors 61 = .ok (.iconst (-1), 1) := by decide +kernel
theorem dX1_insertAuthors_62 : decode cX1_insertAuthors 62 = .ok (.invokevirtual 104, 3) := by decide +kernel
theorem dX1_insertAuthors_65 : decode cX1_insertAuthors 65 = .ok (.iinc 1 1, 3) := by decide +kernel
theorem dX1_insertAuthors_68 : decode cX1_insertAuthors 68 = .ok (.goto (-66), 3) := by decide +kernel
theorem dX1_insertAuthors_71 : decode cX1_insertAuthors 71 = .ok (.return_, 1) := by decide +kernel
set_option maxRecDepth 20000 in
theorem ggX1_insertBooks_X4_sizeOf : GoodIn wsX1_insertBooks wsX4_sizeOf := goodIn_r _ [7, 8, 9, 10, 6, 11, 12, 13, 14, 15, 16, 17, 18, 19, 131, 132, 133, 134, 135, 136] (by decide +kernel) (by decide +kernel)
set_option maxRecDepth 20000 in
theorem gX1_insertBooks_X4_sizeOf : GoodIn wsX1_insertBooks (wsV RX1 30 RX4 yX4_sizeOf wsX4_sizeOf) := goodIn_app (goodIn_of _ (by decide +kernel)) ggX1_insertBooks_X4_sizeOf
set_option maxRecDepth 20000 in
theorem ggX1_insertBooks_X4_entityAt : GoodIn wsX1_insertBooks wsX4_entityAt := goodIn_r _ [23, 24, 25, 8, 9, 10, 6, 11, 12, 13, 14, 15, 16, 17, 18, 19, 26, 27, 28, 29, 30, 31, 32, 33, 34, 35, 36, 37, 38, 39, 40, 41, 42, 131, 132, 133, 134, 135, 136] (by decide +kernel) (by decide +kernel)
set_option maxRecDepth 20000 in
theorem gX1_insertBooks_X4_entityAt : GoodIn wsX1_insertBooks (wsV RX1 36 RX4 yX4_entityAt wsX4_entityAt) := goodIn_app (goodIn_of _ (by decide +kernel)) ggX1_insertBooks_X4_entityAt
set_option maxRecDepth 20000 in
theorem ggX1_insertBooks_X0_isNew : GoodIn wsX1_insertBooks wsX0_isNew := goodIn_r _ [47, 48, 49, 123, 124, 125, 126, 127, 128, 129, 130] (by decide +kernel) (by decide +kernel)
set_option maxRecDepth 20000 in
theorem gX1_insertBooks_X0_isNew : GoodIn wsX1_insertBooks (wsV RX1 70 RX0 yX0_isNew wsX0_isNew) := goodIn_app (goodIn_of _ (by decide +kernel)) ggX1_insertBooks_X0_isNew
set_option maxRecDepth 20000 in
theorem ggX1_insertBooks_X1_insert : GoodIn wsX1_insertBooks wsX1_insert := goodIn_r _ [54, 55, 56, 57, 58, 59, 53, 60, 61, 62, 63, 64, 65, 66, 67, 68, 69, 70, 71, 15, 16, 17, 18, 19, 72, 27, 28, 29, 30, 31, 32, 33, 34, 35, 36, 37, 38, 39, 40, 41, 42, 73, 74, 75, 76, 77, 78, 79, 80, 81, 82, 83, 84, 85, 86, 87, 88, 89, 90, 91, 92, 93, 94, 95, 96, 97, 98, 99, 100, 101, 102, 103, 104, 105, 106, 107, 108, 109, 110, 111, 46, 112, 49, 113, 114, 115, 116, 117, 118, 123, 124, 125, 126, 127, 128, 129, 130, 119, 120, 121, 122, 137, 138, 134, 135, 136, 139, 140, 141, 142, 143, 144, 145] (by decide +kernel) (by decide +kernel)
set_option maxRecDepth 20000 in
theorem gX1_insertBooks_X1_insert : GoodIn wsX1_insertBooks (wsV RX1 104 RX1 yX1_insert wsX1_insert) := goodIn_app (goodIn_of _ (by decide +kernel)) ggX1_insertBooks_X1_insert
theorem dX1_insertBooks_0 : decode cX1_insertBooks 0 = .ok (.iconst 0, 1) := by decide +kernel
theorem dX1_insertBooks_1 : decode cX1_insertBooks 1 = .ok (.istore_n 1, 1) := by decide +kernel
theorem dX1_insertBooks_2 : decode cX1_insertBooks 2 = .ok (.iload_n 1, 1) := by decide +kernel
theorem dX1_insertBooks_3 : decode cX1_insertBooks 3 = .ok (.aload_n 0, 1) := by decide +kernel
theorem dX1_insertBooks_4 : decode cX1_insertBooks 4 = .ok (.getfield 9, 3) := by decide +kernel
theorem dX1_insertBooks_7 : decode cX1_insertBooks 7 = .ok (.iconst 1, 1) := by decide +kernel
theorem dX1_insertBooks_8 : decode cX1_insertBooks 8 = .ok (.invokevirtual 30, 3) := by decide +kernel
theorem dX1_insertBooks_11 : decode cX1_insertBooks 11 = .ok (.if_icmp .ge 37, 3) := by decide +kernel
theorem dX1_insertBooks_14 : decode cX1_insertBooks 14 = .ok (.aload_n 0, 1) := by decide +kernel
theorem dX1_insertBooks_15 : decode cX1_insertBooks 15 = .ok (.getfield 9, 3) := by decide +kernel
theorem dX1_insertBooks_18 : decode cX1_insertBooks 18 = .ok (.iconst 1, 1) := by decide +kernel
theorem dX1_insertBooks_19 : decode cX1_insertBooks 19 = .ok (.iload_n 1, 1) := by decide +kernel
theorem dX1_insertBooks_20 : decode cX1_insertBooks 20 = .ok (.invokevirtual 36, 3) := by decide +kernel
theorem dX1_insertBooks_23 : decode cX1_insertBooks 23 = .ok (.astore_n 2, 1) := by decide +kernel
theorem dX1_insertBooks_24 : decode cX1_insertBooks 24 = .ok (.aload_n 2, 1) := by decide +kernel
theorem dX1_insertBooks_25 : decode cX1_insertBooks 25 = .ok (.invokevirtual 70, 3) := by decide +kernel
theorem dX1_insertBooks_28 : decode cX1_insertBooks 28 = .ok (.ifCond .eq 14, 3) := by decide +kernel
theorem dX1_insertBooks_31 : decode cX1_insertBooks 31 = .ok (.aload_n 0, 1) := by decide +kernel
theorem dX1_insertBooks_32 : decode cX1_insertBooks 32 = .ok (.aload_n 2, 1) := by decide +kernel
theorem dX1_insertBooks_33 : decode cX1_insertBooks 33 = .ok (.iconst 1, 1) := by decide +kernel
theorem dX1_insertBooks_34 : decode cX1_insertBooks 34 = .ok (.iload_n 1, 1) := by decide +kernel
theorem dX1_insertBooks_35 : decode cX1_insertBooks 35 = .ok (.aload_n 2, 1) := by decide +kernel
theorem dX1_insertBooks_36 : decode cX1_insertBooks 36 = .ok (.getfield 86, 3) := by decide +kernel
theorem dX1_insertBooks_39 : decode cX1_insertBooks 39 = .ok (.invokevirtual 104, 3) := by decide +kernel
theorem dX1_insertBooks_42 : decode cX1_insertBooks 42 = .ok (.iinc 1 1, 3) := by decide +kernel
theorem dX1_insertBooks_45 : decode cX1_insertBooks 45 = .ok (.goto (-43), 3) := by decide +kernel
theorem dX1_insertBooks_48 : decode cX1_insertBooks 48 = .ok (.return_, 1) := by decide +kernel
set_option maxRecDepth 20000 in
theorem ggX1_insert_X1_tableFor : GoodIn wsX1_insert wsX1_tableFor := goodIn_r _ [7, 8, 9, 97, 98, 99, 100] (by decide +kernel) (by decide +kernel)
set_option maxRecDepth 20000 in
theorem gX1_insert_X1_tableFor : GoodIn wsX1_insert (wsV RX1 40 RX1 yX1_tableFor wsX1_tableFor) := goodIn_app (goodIn_of _ (by decide +kernel)) ggX1_insert_X1_tableFor
set_option maxRecDepth 20000 in
theorem ggX1_insert_X5_rowAt : GoodIn wsX1_insert wsX5_rowAt := goodIn_r _ [14, 15, 16, 17, 18, 19, 20, 21, 22, 23, 24, 25, 26, 27, 28, 29, 30, 31, 32, 33, 34, 35, 36, 37, 38, 39, 40, 101, 102, 103, 104, 105] (by decide +kernel) (by decide +kernel)
set_option maxRecDepth 20000 in
theorem gX1_insert_X5_rowAt : GoodIn wsX1_insert (wsV RX1 44 RX5 yX5_rowAt wsX5_rowAt) := goodIn_app (goodIn_of _ (by decide +kernel)) ggX1_insert_X5_rowAt
set_option maxRecDepth 20000 in
theorem ggX1_insert_X3_insert : GoodIn wsX1_insert wsX3_insert := goodIn_r _ [45, 46, 47, 48, 49, 106, 107, 108, 109] (by decide +kernel) (by decide +kernel)
set_option maxRecDepth 20000 in
theorem gX1_insert_X3_insert : GoodIn wsX1_insert (wsV RX1 111 RX3 yX3_insert wsX3_insert) := goodIn_app (goodIn_of _ (by decide +kernel)) ggX1_insert_X3_insert
set_option maxRecDepth 20000 in
theorem ggX1_insert_X2_note : GoodIn wsX1_insert wsX2_note := goodIn_r _ [54, 55, 56, 57, 58, 59, 60, 61, 62, 63, 64, 65, 66, 67, 68, 69, 70, 71, 72, 73, 74, 75, 76, 110, 111, 112] (by decide +kernel) (by decide +kernel)
set_option maxRecDepth 20000 in
theorem gX1_insert_X2_note : GoodIn wsX1_insert (wsV RX1 114 RX2 yX2_note wsX2_note) := goodIn_app (goodIn_of _ (by decide +kernel)) ggX1_insert_X2_note
set_option maxRecDepth 20000 in
theorem ggX1_insert_X0_takeSnapshot : GoodIn wsX1_insert wsX0_takeSnapshot := goodIn_r _ [81, 82, 83, 84, 85, 86, 87, 88, 89, 90, 91, 92, 93, 94, 95, 96, 106, 107, 108, 109] (by decide +kernel) (by decide +kernel)
set_option maxRecDepth 20000 in
theorem gX1_insert_X0_takeSnapshot : GoodIn wsX1_insert (wsV RX1 120 RX0 yX0_takeSnapshot wsX0_takeSnapshot) := goodIn_app (goodIn_of _ (by decide +kernel)) ggX1_insert_X0_takeSnapshot
theorem dX1_insert_0 : decode cX1_insert 0 = .ok (.aload_n 0, 1) := by decide +kernel
theorem dX1_insert_1 : decode cX1_insert 1 = .ok (.iload_n 2, 1) := by decide +kernel
theorem dX1_insert_2 : decode cX1_insert 2 = .ok (.invokevirtual 40, 3) := by decide +kernel
theorem dX1_insert_5 : decode cX1_insert 5 = .ok (.iload_n 3, 1) := by decide +kernel
theorem dX1_insert_6 : decode cX1_insert 6 = .ok (.invokevirtual 44, 3) := by decide +kernel
theorem dX1_insert_9 : decode cX1_insert 9 = .ok (.astore 5, 2) := by decide +kernel
theorem dX1_insert_11 : decode cX1_insert 11 = .ok (.aload 5, 2) := by decide +kernel
theorem dX1_insert_13 : decode cX1_insert 13 = .ok (.aload_n 1, 1) := by decide +kernel
theorem dX1_insert_14 : decode cX1_insert 14 = .ok (.getfield 108, 3) := by decide +kernel
theorem dX1_insert_17 : decode cX1_insert 17 = .ok (.iload 4, 2) := by decide +kernel
theorem dX1_insert_19 : decode cX1_insert 19 = .ok (.invokevirtual 111, 3) := by decide +kernel
theorem dX1_insert_22 : decode cX1_insert 22 = .ok (.aload_n 0, 1) := by decide +kernel
theorem dX1_insert_23 : decode cX1_insert 23 = .ok (.getfield 22, 3) := by decide +kernel
theorem dX1_insert_26 : decode cX1_insert 26 = .ok (.iconst 0, 1) := by decide +kernel
theorem dX1_insert_27 : decode cX1_insert 27 = .ok (.iload_n 2, 1) := by decide +kernel
theorem dX1_insert_28 : decode cX1_insert 28 = .ok (.iload_n 3, 1) := by decide +kernel
theorem dX1_insert_29 : decode cX1_insert 29 = .ok (.invokevirtual 114, 3) := by decide +kernel
theorem dX1_insert_32 : decode cX1_insert 32 = .ok (.aload_n 1, 1) := by decide +kernel
theorem dX1_insert_33 : decode cX1_insert 33 = .ok (.aload 5, 2) := by decide +kernel
theorem dX1_insert_35 : decode cX1_insert 35 = .ok (.invokevirtual 120, 3) := by decide +kernel
theorem dX1_insert_38 : decode cX1_insert 38 = .ok (.return_, 1) := by decide +kernel
set_option maxRecDepth 20000 in
theorem ggX1_updateChanged_X4_sizeOf : GoodIn wsX1_updateChanged wsX4_sizeOf := goodIn_r _ [9, 10, 11, 12, 8, 13, 14, 15, 16, 17, 18, 19, 20, 21, 127, 128, 129, 130, 131, 132] (by decide +kernel) (by decide +kernel)
set_option maxRecDepth 20000 in
theorem gX1_updateChanged_X4_sizeOf : GoodIn wsX1_updateChanged (wsV RX1 30 RX4 yX4_sizeOf wsX4_sizeOf) := goodIn_app (goodIn_of _ (by decide +kernel)) ggX1_updateChanged_X4_sizeOf
set_option maxRecDepth 20000 in
theorem ggX1_updateChanged_X4_entityAt : GoodIn wsX1_updateChanged wsX4_entityAt := goodIn_r _ [25, 26, 27, 10, 11, 12, 8, 13, 14, 15, 16, 17, 18, 19, 20, 21, 28, 29, 30, 31, 32, 33, 34, 35, 36, 37, 38, 39, 40, 41, 42, 43, 44, 127, 128, 129, 130, 131, 132] (by decide +kernel) (by decide +kernel)
set_option maxRecDepth 20000 in
theorem gX1_updateChanged_X4_entityAt : GoodIn wsX1_updateChanged (wsV RX1 36 RX4 yX4_entityAt wsX4_entityAt) := goodIn_app (goodIn_of _ (by decide +kernel)) ggX1_updateChanged_X4_entityAt
set_option maxRecDepth 20000 in
theorem ggX1_updateChanged_X0_isChanged : GoodIn wsX1_updateChanged wsX0_isChanged := goodIn_r _ [49, 50, 51, 52, 53, 54, 119, 120, 121, 122, 123, 124, 125, 126] (by decide +kernel) (by decide +kernel)
set_option maxRecDepth 20000 in
theorem gX1_updateChanged_X0_isChanged : GoodIn wsX1_updateChanged (wsV RX1 83 RX0 yX0_isChanged wsX0_isChanged) := goodIn_app (goodIn_of _ (by decide +kernel)) ggX1_updateChanged_X0_isChanged
set_option maxRecDepth 20000 in
theorem ggX1_updateChanged_X1_tableFor : GoodIn wsX1_updateChanged wsX1_tableFor := goodIn_r _ [59, 60, 61, 115, 116, 117, 118] (by decide +kernel) (by decide +kernel)
set_option maxRecDepth 20000 in
theorem gX1_updateChanged_X1_tableFor : GoodIn wsX1_updateChanged (wsV RX1 40 RX1 yX1_tableFor wsX1_tableFor) := goodIn_app (goodIn_of _ (by decide +kernel)) ggX1_updateChanged_X1_tableFor
set_option maxRecDepth 20000 in
theorem ggX1_updateChanged_X5_rowAt : GoodIn wsX1_updateChanged wsX5_rowAt := goodIn_r _ [66, 67, 68, 69, 70, 17, 18, 19, 20, 21, 71, 29, 30, 31, 32, 33, 34, 35, 36, 37, 38, 39, 40, 41, 42, 43, 44, 133, 134, 130, 131, 132] (by decide +kernel) (by decide +kernel)
set_option maxRecDepth 20000 in
theorem gX1_updateChanged_X5_rowAt : GoodIn wsX1_updateChanged (wsV RX1 44 RX5 yX5_rowAt wsX5_rowAt) := goodIn_app (goodIn_of _ (by decide +kernel)) ggX1_updateChanged_X5_rowAt
set_option maxRecDepth 20000 in
theorem ggX1_updateChanged_X3_update : GoodIn wsX1_updateChanged wsX3_update := goodIn_r _ [76, 77, 78, 79, 135, 136, 137, 138] (by decide +kernel) (by decide +kernel)
set_option maxRecDepth 20000 in
theorem gX1_updateChanged_X3_update : GoodIn wsX1_updateChanged (wsV RX1 124 RX3 yX3_update wsX3_update) := goodIn_app (goodIn_of _ (by decide +kernel)) ggX1_updateChanged_X3_update
set_option maxRecDepth 20000 in
theorem ggX1_updateChanged_X2_note : GoodIn wsX1_updateChanged wsX2_note := goodIn_r _ [84, 85, 86, 87, 88, 89, 90, 91, 92, 93, 94, 95, 96, 97, 98, 99, 100, 101, 102, 103, 104, 105, 106, 139, 140, 141] (by decide +kernel) (by decide +kernel)
set_option maxRecDepth 20000 in
theorem gX1_updateChanged_X2_note : GoodIn wsX1_updateChanged (wsV RX1 114 RX2 yX2_note wsX2_note) := goodIn_app (goodIn_of _ (by decide +kernel)) ggX1_updateChanged_X2_note
set_option maxRecDepth 20000 in
theorem ggX1_updateChanged_X0_takeSnapshot : GoodIn wsX1_updateChanged wsX0_takeSnapshot := goodIn_r _ [110, 50, 111, 52, 112, 54, 113, 114, 119, 120, 121, 122, 123, 124, 125, 126, 135, 136, 137, 138] (by decide +kernel) (by decide +kernel)
set_option maxRecDepth 20000 in
theorem gX1_updateChanged_X0_takeSnapshot : GoodIn wsX1_updateChanged (wsV RX1 120 RX0 yX0_takeSnapshot wsX0_takeSnapshot) := goodIn_app (goodIn_of _ (by decide +kernel)) ggX1_updateChanged_X0_takeSnapshot
theorem dX1_updateChanged_0 : decode cX1_updateChanged 0 = .ok (.iconst 0, 1) := by decide +kernel
theorem dX1_updateChanged_1 : decode cX1_updateChanged 1 = .ok (.istore_n 2, 1) := by decide +kernel
theorem dX1_updateChanged_2 : decode cX1_updateChanged 2 = .ok (.iload_n 2, 1) := by decide +kernel
theorem dX1_updateChanged_3 : decode cX1_updateChanged 3 = .ok (.aload_n 0, 1) := by decide +kernel
theorem dX1_updateChanged_4 : decode cX1_updateChanged 4 = .ok (.getfield 9, 3) := by decide +kernel
theorem dX1_updateChanged_7 : decode cX1_updateChanged 7 = .ok (.iload_n 1, 1) := by decide +kernel
theorem dX1_updateChanged_8 : decode cX1_updateChanged 8 = .ok (.invokevirtual 30, 3) := by decide +kernel
theorem dX1_updateChanged_11 : decode cX1_updateChanged 11 = .ok (.if_icmp .ge 66, 3) := by decide +kernel
theorem dX1_updateChanged_14 : decode cX1_updateChanged 14 = .ok (.aload_n 0, 1) := by decide +kernel
theorem dX1_updateChanged_15 : decode cX1_updateChanged 15 = .ok (.getfield 9, 3) := by decide +kernel
theorem dX1_updateChanged_18 : decode cX1_updateChanged 18 = .ok (.iload_n 1, 1) := by decide +kernel
theorem dX1_updateChanged_19 : decode cX1_updateChanged 19 = .ok (.iload_n 2, 1) := by decide +kernel
theorem dX1_updateChanged_20 : decode cX1_updateChanged 20 = .ok (.invokevirtual 36, 3) := by decide +kernel
theorem dX1_updateChanged_23 : decode cX1_updateChanged 23 = .ok (.astore_n 3, 1) := by decide +kernel
theorem dX1_updateChanged_24 : decode cX1_updateChanged 24 = .ok (.aload_n 3, 1) := by decide +kernel
theorem dX1_updateChanged_25 : decode cX1_updateChanged 25 = .ok (.invokevirtual 83, 3) := by decide +kernel
theorem dX1_updateChanged_28 : decode cX1_updateChanged 28 = .ok (.ifCond .eq 43, 3) := by decide +kernel
theorem dX1_updateChanged_31 : decode cX1_updateChanged 31 = .ok (.aload_n 0, 1) := by decide +kernel
theorem dX1_updateChanged_32 : decode cX1_updateChanged 32 = .ok (.iload_n 1, 1) := by decide +kernel
theorem dX1_updateChanged_33 : decode cX1_updateChanged 33 = .ok (.invokevirtual 40, 3) := by decide +kernel
theorem dX1_updateChanged_36 : decode cX1_updateChanged 36 = .ok (.iload_n 2, 1) := by decide +kernel
theorem dX1_updateChanged_37 : decode cX1_updateChanged 37 = .ok (.invokevirtual 44, 3) := by decide +kernel
theorem dX1_updateChanged_40 : decode cX1_updateChanged 40 = .ok (.astore 4, 2) := by decide +kernel
theorem dX1_updateChanged_42 : decode cX1_updateChanged 42 = .ok (.aload 4, 2) := by decide +kernel
theorem dX1_updateChanged_44 : decode cX1_updateChanged 44 = .ok (.aload_n 3, 1) := by decide +kernel
theorem dX1_updateChanged_45 : decode cX1_updateChanged 45 = .ok (.getfield 108, 3) := by decide +kernel
theorem dX1_updateChanged_48 : decode cX1_updateChanged 48 = .ok (.aload_n 3, 1) := by decide +kernel
theorem dX1_updateChanged_49 : decode cX1_updateChanged 49 = .ok (.getfield 86, 3) := by decide +kernel
theorem dX1_updateChanged_52 : decode cX1_updateChanged 52 = .ok (.invokevirtual 124, 3) := by decide +kernel
theorem dX1_updateChanged_55 : decode cX1_updateChanged 55 = .ok (.aload_n 0, 1) := by decide +kernel
theorem dX1_updateChanged_56 : decode cX1_updateChanged 56 = .ok (.getfield 22, 3) := by decide +kernel
theorem dX1_updateChanged_59 : decode cX1_updateChanged 59 = .ok (.iconst 1, 1) := by decide +kernel
theorem dX1_updateChanged_60 : decode cX1_updateChanged 60 = .ok (.iload_n 1, 1) := by decide +kernel
theorem dX1_updateChanged_61 : decode cX1_updateChanged 61 = .ok (.iload_n 2, 1) := by decide +kernel
theorem dX1_updateChanged_62 : decode cX1_updateChanged 62 = .ok (.invokevirtual 114, 3) := by decide +kernel
theorem dX1_updateChanged_65 : decode cX1_updateChanged 65 = .ok (.aload_n 3, 1) := by decide +kernel
theorem dX1_updateChanged_66 : decode cX1_updateChanged 66 = .ok (.aload 4, 2) := by decide +kernel
theorem dX1_updateChanged_68 : decode cX1_updateChanged 68 = .ok (.invokevirtual 120, 3) := by decide +kernel
theorem dX1_updateChanged_71 : decode cX1_updateChanged 71 = .ok (.iinc 2 1, 3) := by decide +kernel
theorem dX1_updateChanged_74 : decode cX1_updateChanged 74 = .ok (.goto (-72), 3) := by decide +kernel
theorem dX1_updateChanged_77 : decode cX1_updateChanged 77 = .ok (.return_, 1) := by decide +kernel
set_option maxRecDepth 20000 in
theorem ggX1_deleteStruckOut_X4_sizeOf : GoodIn wsX1_deleteStruckOut wsX4_sizeOf := goodIn_r _ [9, 10, 11, 12, 8, 13, 14, 15, 16, 17, 18, 19, 20, 21, 113, 114, 115, 116, 117, 118] (by decide +kernel) (by decide +kernel)
set_option maxRecDepth 20000 in
theorem gX1_deleteStruckOut_X4_sizeOf : GoodIn wsX1_deleteStruckOut (wsV RX1 30 RX4 yX4_sizeOf wsX4_sizeOf) := goodIn_app (goodIn_of _ (by decide +kernel)) ggX1_deleteStruckOut_X4_sizeOf
set_option maxRecDepth 20000 in
theorem ggX1_deleteStruckOut_X4_entityAt : GoodIn wsX1_deleteStruckOut wsX4_entityAt := goodIn_r _ [25, 26, 27, 10, 11, 12, 8, 13, 14, 15, 16, 17, 18, 19, 20, 21, 28, 29, 30, 31, 32, 33, 34, 35, 36, 37, 38, 39, 40, 41, 42, 43, 44, 113, 114, 115, 116, 117, 118] (by decide +kernel) (by decide +kernel)
set_option maxRecDepth 20000 in
theorem gX1_deleteStruckOut_X4_entityAt : GoodIn wsX1_deleteStruckOut (wsV RX1 36 RX4 yX4_entityAt wsX4_entityAt) := goodIn_app (goodIn_of _ (by decide +kernel)) ggX1_deleteStruckOut_X4_entityAt
set_option maxRecDepth 20000 in
theorem ggX1_deleteStruckOut_X1_tableFor : GoodIn wsX1_deleteStruckOut wsX1_tableFor := goodIn_r _ [49, 50, 51, 97, 98, 99, 100] (by decide +kernel) (by decide +kernel)
set_option maxRecDepth 20000 in
theorem gX1_deleteStruckOut_X1_tableFor : GoodIn wsX1_deleteStruckOut (wsV RX1 40 RX1 yX1_tableFor wsX1_tableFor) := goodIn_app (goodIn_of _ (by decide +kernel)) ggX1_deleteStruckOut_X1_tableFor
set_option maxRecDepth 20000 in
theorem ggX1_deleteStruckOut_X5_rowAt : GoodIn wsX1_deleteStruckOut wsX5_rowAt := goodIn_r _ [56, 57, 58, 59, 60, 17, 18, 19, 20, 21, 61, 29, 30, 31, 32, 33, 34, 35, 36, 37, 38, 39, 40, 41, 42, 43, 44, 119, 120, 116, 117, 118] (by decide +kernel) (by decide +kernel)
set_option maxRecDepth 20000 in
theorem gX1_deleteStruckOut_X5_rowAt : GoodIn wsX1_deleteStruckOut (wsV RX1 44 RX5 yX5_rowAt wsX5_rowAt) := goodIn_app (goodIn_of _ (by decide +kernel)) ggX1_deleteStruckOut_X5_rowAt
set_option maxRecDepth 20000 in
theorem ggX1_deleteStruckOut_X2_note : GoodIn wsX1_deleteStruckOut wsX2_note := goodIn_r _ [66, 67, 68, 69, 70, 71, 72, 73, 74, 75, 76, 77, 78, 79, 80, 81, 82, 83, 84, 85, 86, 87, 88, 121, 122, 123] (by decide +kernel) (by decide +kernel)
set_option maxRecDepth 20000 in
theorem gX1_deleteStruckOut_X2_note : GoodIn wsX1_deleteStruckOut (wsV RX1 114 RX2 yX2_note wsX2_note) := goodIn_app (goodIn_of _ (by decide +kernel)) ggX1_deleteStruckOut_X2_note
set_option maxRecDepth 20000 in
theorem ggX1_deleteStruckOut_X0_forget : GoodIn wsX1_deleteStruckOut wsX0_forget := goodIn_r _ [93, 94, 95, 96, 101, 102, 103, 104, 105, 106, 107, 108] (by decide +kernel) (by decide +kernel)
set_option maxRecDepth 20000 in
theorem gX1_deleteStruckOut_X0_forget : GoodIn wsX1_deleteStruckOut (wsV RX1 127 RX0 yX0_forget wsX0_forget) := goodIn_app (goodIn_of _ (by decide +kernel)) ggX1_deleteStruckOut_X0_forget
theorem dX1_deleteStruckOut_0 : decode cX1_deleteStruckOut 0 = .ok (.iconst 0, 1) := by decide +kernel
theorem dX1_deleteStruckOut_1 : decode cX1_deleteStruckOut 1 = .ok (.istore_n 2, 1) := by decide +kernel
theorem dX1_deleteStruckOut_2 : decode cX1_deleteStruckOut 2 = .ok (.iload_n 2, 1) := by decide +kernel
theorem dX1_deleteStruckOut_3 : decode cX1_deleteStruckOut 3 = .ok (.aload_n 0, 1) := by decide +kernel
theorem dX1_deleteStruckOut_4 : decode cX1_deleteStruckOut 4 = .ok (.getfield 9, 3) := by decide +kernel
theorem dX1_deleteStruckOut_7 : decode cX1_deleteStruckOut 7 = .ok (.iload_n 1, 1) := by decide +kernel
theorem dX1_deleteStruckOut_8 : decode cX1_deleteStruckOut 8 = .ok (.invokevirtual 30, 3) := by decide +kernel
theorem dX1_deleteStruckOut_11 : decode cX1_deleteStruckOut 11 = .ok (.if_icmp .ge 53, 3) := by decide +kernel
theorem dX1_deleteStruckOut_14 : decode cX1_deleteStruckOut 14 = .ok (.aload_n 0, 1) := by decide +kernel
theorem dX1_deleteStruckOut_15 : decode cX1_deleteStruckOut 15 = .ok (.getfield 9, 3) := by decide +kernel
theorem dX1_deleteStruckOut_18 : decode cX1_deleteStruckOut 18 = .ok (.iload_n 1, 1) := by decide +kernel
theorem dX1_deleteStruckOut_19 : decode cX1_deleteStruckOut 19 = .ok (.iload_n 2, 1) := by decide +kernel
theorem dX1_deleteStruckOut_20 : decode cX1_deleteStruckOut 20 = .ok (.invokevirtual 36, 3) := by decide +kernel
theorem dX1_deleteStruckOut_23 : decode cX1_deleteStruckOut 23 = .ok (.astore_n 3, 1) := by decide +kernel
theorem dX1_deleteStruckOut_24 : decode cX1_deleteStruckOut 24 = .ok (.aload_n 3, 1) := by decide +kernel
theorem dX1_deleteStruckOut_25 : decode cX1_deleteStruckOut 25 = .ok (.getfield 74, 3) := by decide +kernel
theorem dX1_deleteStruckOut_28 : decode cX1_deleteStruckOut 28 = .ok (.ifCond .eq 30, 3) := by decide +kernel
theorem dX1_deleteStruckOut_31 : decode cX1_deleteStruckOut 31 = .ok (.aload_n 0, 1) := by decide +kernel
theorem dX1_deleteStruckOut_32 : decode cX1_deleteStruckOut 32 = .ok (.iload_n 1, 1) := by decide +kernel
theorem dX1_deleteStruckOut_33 : decode cX1_deleteStruckOut 33 = .ok (.invokevirtual 40, 3) := by decide +kernel
theorem dX1_deleteStruckOut_36 : decode cX1_deleteStruckOut 36 = .ok (.iload_n 2, 1) := by decide +kernel
theorem dX1_deleteStruckOut_37 : decode cX1_deleteStruckOut 37 = .ok (.invokevirtual 44, 3) := by decide +kernel
theorem dX1_deleteStruckOut_40 : decode cX1_deleteStruckOut 40 = .ok (.iconst 0, 1) := by decide +kernel
theorem dX1_deleteStruckOut_41 : decode cX1_deleteStruckOut 41 = .ok (.putfield 78, 3) := by decide +kernel
theorem dX1_deleteStruckOut_44 : decode cX1_deleteStruckOut 44 = .ok (.aload_n 0, 1) := by decide +kernel
theorem dX1_deleteStruckOut_45 : decode cX1_deleteStruckOut 45 = .ok (.getfield 22, 3) := by decide +kernel
theorem dX1_deleteStruckOut_48 : decode cX1_deleteStruckOut 48 = .ok (.iconst 2, 1) := by decide +kernel
theorem dX1_deleteStruckOut_49 : decode cX1_deleteStruckOut 49 = .ok (.iload_n 1, 1) := by decide +kernel
theorem dX1_deleteStruckOut_50 : decode cX1_deleteStruckOut 50 = .ok (.iload_n 2, 1) := by decide +kernel
theorem dX1_deleteStruckOut_51 : decode cX1_deleteStruckOut 51 = .ok (.invokevirtual 114, 3) := by decide +kernel
theorem dX1_deleteStruckOut_54 : decode cX1_deleteStruckOut 54 = .ok (.aload_n 3, 1) := by decide +kernel
theorem dX1_deleteStruckOut_55 : decode cX1_deleteStruckOut 55 = .ok (.invokevirtual 127, 3) := by decide +kernel
theorem dX1_deleteStruckOut_58 : decode cX1_deleteStruckOut 58 = .ok (.iinc 2 1, 3) := by decide +kernel
theorem dX1_deleteStruckOut_61 : decode cX1_deleteStruckOut 61 = .ok (.goto (-59), 3) := by decide +kernel
theorem dX1_deleteStruckOut_64 : decode cX1_deleteStruckOut 64 = .ok (.return_, 1) := by decide +kernel
theorem dX2_init_0 : decode cX2_init 0 = .ok (.aload_n 0, 1) := by decide +kernel
theorem dX2_init_1 : decode cX2_init 1 = .ok (.invokespecial 3, 3) := by decide +kernel
theorem dX2_init_4 : decode cX2_init 4 = .ok (.aload_n 0, 1) := by decide +kernel
theorem dX2_init_5 : decode cX2_init 5 = .ok (.bipush 64, 2) := by decide +kernel
theorem dX2_init_7 : decode cX2_init 7 = .ok (.newarray .int, 2) := by decide +kernel
theorem dX2_init_9 : decode cX2_init 9 = .ok (.putfield 11, 3) := by decide +kernel
theorem dX2_init_12 : decode cX2_init 12 = .ok (.aload_n 0, 1) := by decide +kernel
theorem dX2_init_13 : decode cX2_init 13 = .ok (.bipush 64, 2) := by decide +kernel
theorem dX2_init_15 : decode cX2_init 15 = .ok (.newarray .int, 2) := by decide +kernel
theorem dX2_init_17 : decode cX2_init 17 = .ok (.putfield 15, 3) := by decide +kernel
theorem dX2_init_20 : decode cX2_init 20 = .ok (.return_, 1) := by decide +kernel
theorem dX2_isFull_0 : decode cX2_isFull 0 = .ok (.aload_n 0, 1) := by decide +kernel
theorem dX2_isFull_1 : decode cX2_isFull 1 = .ok (.getfield 18, 3) := by decide +kernel
theorem dX2_isFull_4 : decode cX2_isFull 4 = .ok (.sipush 4096, 3) := by decide +kernel
theorem dX2_isFull_7 : decode cX2_isFull 7 = .ok (.if_icmp .lt 7, 3) := by decide +kernel
theorem dX2_isFull_10 : decode cX2_isFull 10 = .ok (.iconst 1, 1) := by decide +kernel
theorem dX2_isFull_11 : decode cX2_isFull 11 = .ok (.goto 4, 3) := by decide +kernel
theorem dX2_isFull_14 : decode cX2_isFull 14 = .ok (.iconst 0, 1) := by decide +kernel
theorem dX2_isFull_15 : decode cX2_isFull 15 = .ok (.ireturn, 1) := by decide +kernel
set_option maxRecDepth 20000 in
theorem ggX2_note_J7_copyOf_59c91 : GoodIn wsX2_note wsJ7_copyOf_59c91 := goodIn_r _ [7, 8, 9, 10, 11, 12, 13, 14, 15, 16, 17, 18, 19, 20, 21, 22] (by decide +kernel) (by decide +kernel)
set_option maxRecDepth 20000 in
theorem gX2_note_J7_copyOf_59c91 : GoodIn wsX2_note (va_wsS RX2 22 yJ7_copyOf_59c91 wsJ7_copyOf_59c91) := goodIn_app (goodIn_of _ (by decide +kernel)) ggX2_note_J7_copyOf_59c91
theorem dX2_note_0 : decode cX2_note 0 = .ok (.aload_n 0, 1) := by decide +kernel
theorem dX2_note_1 : decode cX2_note 1 = .ok (.getfield 18, 3) := by decide +kernel
theorem dX2_note_4 : decode cX2_note 4 = .ok (.aload_n 0, 1) := by decide +kernel
theorem dX2_note_5 : decode cX2_note 5 = .ok (.getfield 11, 3) := by decide +kernel
theorem dX2_note_8 : decode cX2_note 8 = .ok (.arraylength, 1) := by decide +kernel
theorem dX2_note_9 : decode cX2_note 9 = .ok (.if_icmp .ge 15, 3) := by decide +kernel
theorem dX2_note_12 : decode cX2_note 12 = .ok (.aload_n 0, 1) := by decide +kernel
theorem dX2_note_13 : decode cX2_note 13 = .ok (.getfield 18, 3) := by decide +kernel
theorem dX2_note_16 : decode cX2_note 16 = .ok (.aload_n 0, 1) := by decide +kernel
theorem dX2_note_17 : decode cX2_note 17 = .ok (.getfield 15, 3) := by decide +kernel
theorem dX2_note_20 : decode cX2_note 20 = .ok (.arraylength, 1) := by decide +kernel
theorem dX2_note_21 : decode cX2_note 21 = .ok (.if_icmp .lt 37, 3) := by decide +kernel
theorem dX2_note_24 : decode cX2_note 24 = .ok (.aload_n 0, 1) := by decide +kernel
theorem dX2_note_25 : decode cX2_note 25 = .ok (.aload_n 0, 1) := by decide +kernel
theorem dX2_note_26 : decode cX2_note 26 = .ok (.getfield 11, 3) := by decide +kernel
theorem dX2_note_29 : decode cX2_note 29 = .ok (.iconst 2, 1) := by decide +kernel
theorem dX2_note_30 : decode cX2_note 30 = .ok (.aload_n 0, 1) := by decide +kernel
theorem dX2_note_31 : decode cX2_note 31 = .ok (.getfield 18, 3) := by decide +kernel
theorem dX2_note_34 : decode cX2_note 34 = .ok (.imul, 1) := by decide +kernel
theorem dX2_note_35 : decode cX2_note 35 = .ok (.invokestatic 22, 3) := by decide +kernel
theorem dX2_note_38 : decode cX2_note 38 = .ok (.putfield 11, 3) := by decide +kernel
theorem dX2_note_41 : decode cX2_note 41 = .ok (.aload_n 0, 1) := by decide +kernel
theorem dX2_note_42 : decode cX2_note 42 = .ok (.aload_n 0, 1) := by decide +kernel
theorem dX2_note_43 : decode cX2_note 43 = .ok (.getfield 15, 3) := by decide +kernel
theorem dX2_note_46 : decode cX2_note 46 = .ok (.iconst 2, 1) := by decide +kernel
theorem dX2_note_47 : decode cX2_note 47 = .ok (.aload_n 0, 1) := by decide +kernel
theorem dX2_note_48 : decode cX2_note 48 = .ok (.getfield 18, 3) := by decide +kernel
theorem dX2_note_51 : decode cX2_note 51 = .ok (.imul, 1) := by decide +kernel
theorem dX2_note_52 : decode cX2_note 52 = .ok (.invokestatic 22, 3) := by decide +kernel
theorem dX2_note_55 : decode cX2_note 55 = .ok (.putfield 15, 3) := by decide +kernel
theorem dX2_note_58 : decode cX2_note 58 = .ok (.aload_n 0, 1) := by decide +kernel
theorem dX2_note_59 : decode cX2_note 59 = .ok (.getfield 11, 3) := by decide +kernel
theorem dX2_note_62 : decode cX2_note 62 = .ok (.aload_n 0, 1) := by decide +kernel
theorem dX2_note_63 : decode cX2_note 63 = .ok (.getfield 18, 3) := by decide +kernel
theorem dX2_note_66 : decode cX2_note 66 = .ok (.iload_n 1, 1) := by decide +kernel
theorem dX2_note_67 : decode cX2_note 67 = .ok (.iastore, 1) := by decide +kernel
theorem dX2_note_68 : decode cX2_note 68 = .ok (.aload_n 0, 1) := by decide +kernel
theorem dX2_note_69 : decode cX2_note 69 = .ok (.getfield 15, 3) := by decide +kernel
theorem dX2_note_72 : decode cX2_note 72 = .ok (.aload_n 0, 1) := by decide +kernel
theorem dX2_note_73 : decode cX2_note 73 = .ok (.getfield 18, 3) := by decide +kernel
theorem dX2_note_76 : decode cX2_note 76 = .ok (.iconst 2, 1) := by decide +kernel
theorem dX2_note_77 : decode cX2_note 77 = .ok (.iload_n 3, 1) := by decide +kernel
theorem dX2_note_78 : decode cX2_note 78 = .ok (.imul, 1) := by decide +kernel
theorem dX2_note_79 : decode cX2_note 79 = .ok (.iload_n 2, 1) := by decide +kernel
theorem dX2_note_80 : decode cX2_note 80 = .ok (.iconst 1, 1) := by decide +kernel
theorem dX2_note_81 : decode cX2_note 81 = .ok (.if_icmp .ne 7, 3) := by decide +kernel
theorem dX2_note_84 : decode cX2_note 84 = .ok (.iconst 1, 1) := by decide +kernel
theorem dX2_note_85 : decode cX2_note 85 = .ok (.goto 4, 3) := by decide +kernel
theorem dX2_note_88 : decode cX2_note 88 = .ok (.iconst 0, 1) := by decide +kernel
theorem dX2_note_89 : decode cX2_note 89 = .ok (.iadd, 1) := by decide +kernel
theorem dX2_note_90 : decode cX2_note 90 = .ok (.iastore, 1) := by decide +kernel
theorem dX2_note_91 : decode cX2_note 91 = .ok (.aload_n 0, 1) := by decide +kernel
theorem dX2_note_92 : decode cX2_note 92 = .ok (.dup, 1) := by decide +kernel
theorem dX2_note_93 : decode cX2_note 93 = .ok (.getfield 18, 3) := by decide +kernel
theorem dX2_note_96 : decode cX2_note 96 = .ok (.iconst 1, 1) := by decide +kernel
theorem dX2_note_97 : decode cX2_note 97 = .ok (.iadd, 1) := by decide +kernel
theorem dX2_note_98 : decode cX2_note 98 = .ok (.putfield 18, 3) := by decide +kernel
theorem dX2_note_101 : decode cX2_note 101 = .ok (.return_, 1) := by decide +kernel
theorem dX2_actionAt_0 : decode cX2_actionAt 0 = .ok (.iload_n 1, 1) := by decide +kernel
theorem dX2_actionAt_1 : decode cX2_actionAt 1 = .ok (.ifCond .lt 12, 3) := by decide +kernel
theorem dX2_actionAt_4 : decode cX2_actionAt 4 = .ok (.iload_n 1, 1) := by decide +kernel
theorem dX2_actionAt_5 : decode cX2_actionAt 5 = .ok (.aload_n 0, 1) := by decide +kernel
theorem dX2_actionAt_6 : decode cX2_actionAt 6 = .ok (.getfield 11, 3) := by decide +kernel
theorem dX2_actionAt_9 : decode cX2_actionAt 9 = .ok (.arraylength, 1) := by decide +kernel
theorem dX2_actionAt_10 : decode cX2_actionAt 10 = .ok (.if_icmp .lt 7, 3) := by decide +kernel
theorem dX2_actionAt_13 : decode cX2_actionAt 13 = .ok (.iconst (-1), 1) := by decide +kernel
theorem dX2_actionAt_14 : decode cX2_actionAt 14 = .ok (.goto 9, 3) := by decide +kernel
theorem dX2_actionAt_17 : decode cX2_actionAt 17 = .ok (.aload_n 0, 1) := by decide +kernel
theorem dX2_actionAt_18 : decode cX2_actionAt 18 = .ok (.getfield 11, 3) := by decide +kernel
theorem dX2_actionAt_21 : decode cX2_actionAt 21 = .ok (.iload_n 1, 1) := by decide +kernel
theorem dX2_actionAt_22 : decode cX2_actionAt 22 = .ok (.iaload, 1) := by decide +kernel
theorem dX2_actionAt_23 : decode cX2_actionAt 23 = .ok (.ireturn, 1) := by decide +kernel
theorem dX2_rowNumberAt_0 : decode cX2_rowNumberAt 0 = .ok (.iload_n 1, 1) := by decide +kernel
theorem dX2_rowNumberAt_1 : decode cX2_rowNumberAt 1 = .ok (.ifCond .lt 12, 3) := by decide +kernel
theorem dX2_rowNumberAt_4 : decode cX2_rowNumberAt 4 = .ok (.iload_n 1, 1) := by decide +kernel
theorem dX2_rowNumberAt_5 : decode cX2_rowNumberAt 5 = .ok (.aload_n 0, 1) := by decide +kernel
theorem dX2_rowNumberAt_6 : decode cX2_rowNumberAt 6 = .ok (.getfield 15, 3) := by decide +kernel
theorem dX2_rowNumberAt_9 : decode cX2_rowNumberAt 9 = .ok (.arraylength, 1) := by decide +kernel
theorem dX2_rowNumberAt_10 : decode cX2_rowNumberAt 10 = .ok (.if_icmp .lt 7, 3) := by decide +kernel
theorem dX2_rowNumberAt_13 : decode cX2_rowNumberAt 13 = .ok (.iconst (-1), 1) := by decide +kernel
theorem dX2_rowNumberAt_14 : decode cX2_rowNumberAt 14 = .ok (.goto 9, 3) := by decide +kernel
theorem dX2_rowNumberAt_17 : decode cX2_rowNumberAt 17 = .ok (.aload_n 0, 1) := by decide +kernel
theorem dX2_rowNumberAt_18 : decode cX2_rowNumberAt 18 = .ok (.getfield 15, 3) := by decide +kernel
theorem dX2_rowNumberAt_21 : decode cX2_rowNumberAt 21 = .ok (.iload_n 1, 1) := by decide +kernel
theorem dX2_rowNumberAt_22 : decode cX2_rowNumberAt 22 = .ok (.iaload, 1) := by decide +kernel
theorem dX2_rowNumberAt_23 : decode cX2_rowNumberAt 23 = .ok (.ireturn, 1) := by decide +kernel
theorem dX3_init_0 : decode cX3_init 0 = .ok (.aload_n 0, 1) := by decide +kernel
theorem dX3_init_1 : decode cX3_init 1 = .ok (.invokespecial 3, 3) := by decide +kernel
theorem dX3_init_4 : decode cX3_init 4 = .ok (.aload_n 0, 1) := by decide +kernel
theorem dX3_init_5 : decode cX3_init 5 = .ok (.iconst (-1), 1) := by decide +kernel
theorem dX3_init_6 : decode cX3_init 6 = .ok (.putfield 9, 3) := by decide +kernel
theorem dX3_init_9 : decode cX3_init 9 = .ok (.return_, 1) := by decide +kernel
theorem dX3_insert_0 : decode cX3_insert 0 = .ok (.aload_n 0, 1) := by decide +kernel
theorem dX3_insert_1 : decode cX3_insert 1 = .ok (.iconst 1, 1) := by decide +kernel
theorem dX3_insert_2 : decode cX3_insert 2 = .ok (.putfield 15, 3) := by decide +kernel
theorem dX3_insert_5 : decode cX3_insert 5 = .ok (.aload_n 0, 1) := by decide +kernel
theorem dX3_insert_6 : decode cX3_insert 6 = .ok (.iload_n 1, 1) := by decide +kernel
theorem dX3_insert_7 : decode cX3_insert 7 = .ok (.putfield 19, 3) := by decide +kernel
theorem dX3_insert_10 : decode cX3_insert 10 = .ok (.aload_n 0, 1) := by decide +kernel
theorem dX3_insert_11 : decode cX3_insert 11 = .ok (.iload_n 2, 1) := by decide +kernel
theorem dX3_insert_12 : decode cX3_insert 12 = .ok (.putfield 9, 3) := by decide +kernel
theorem dX3_insert_15 : decode cX3_insert 15 = .ok (.aload_n 0, 1) := by decide +kernel
theorem dX3_insert_16 : decode cX3_insert 16 = .ok (.iconst 0, 1) := by decide +kernel
theorem dX3_insert_17 : decode cX3_insert 17 = .ok (.putfield 22, 3) := by decide +kernel
theorem dX3_insert_20 : decode cX3_insert 20 = .ok (.return_, 1) := by decide +kernel
theorem dX3_update_0 : decode cX3_update 0 = .ok (.aload_n 0, 1) := by decide +kernel
theorem dX3_update_1 : decode cX3_update 1 = .ok (.iload_n 1, 1) := by decide +kernel
theorem dX3_update_2 : decode cX3_update 2 = .ok (.putfield 19, 3) := by decide +kernel
theorem dX3_update_5 : decode cX3_update 5 = .ok (.aload_n 0, 1) := by decide +kernel
theorem dX3_update_6 : decode cX3_update 6 = .ok (.iload_n 2, 1) := by decide +kernel
theorem dX3_update_7 : decode cX3_update 7 = .ok (.putfield 9, 3) := by decide +kernel
theorem dX3_update_10 : decode cX3_update 10 = .ok (.aload_n 0, 1) := by decide +kernel
theorem dX3_update_11 : decode cX3_update 11 = .ok (.dup, 1) := by decide +kernel
theorem dX3_update_12 : decode cX3_update 12 = .ok (.getfield 22, 3) := by decide +kernel
theorem dX3_update_15 : decode cX3_update 15 = .ok (.iconst 1, 1) := by decide +kernel
theorem dX3_update_16 : decode cX3_update 16 = .ok (.iadd, 1) := by decide +kernel
theorem dX3_update_17 : decode cX3_update 17 = .ok (.putfield 22, 3) := by decide +kernel
theorem dX3_update_20 : decode cX3_update 20 = .ok (.return_, 1) := by decide +kernel
set_option maxRecDepth 20000 in
theorem ggX4_init_Jx4a65c_init_da8c8 : GoodIn wsX4_init wsJx4a65c_init_da8c8 := goodIn_r _ [15, 16, 17, 18, 19, 20, 21, 22, 23, 24, 25, 26, 27, 2, 3, 32, 33, 34] (by decide +kernel) (by decide +kernel)
set_option maxRecDepth 20000 in
theorem gX4_init_Jx4a65c_init_da8c8 : GoodIn wsX4_init (wsJx4a65c_init_da8c8) := ggX4_init_Jx4a65c_init_da8c8
set_option maxRecDepth 20000 in
theorem ggX4_init_X0_init : GoodIn wsX4_init wsX0_init := goodIn_r _ [29, 30, 2, 3, 31, 38, 39, 40, 41, 42, 43, 44, 45] (by decide +kernel) (by decide +kernel)
set_option maxRecDepth 20000 in
theorem gX4_init_X0_init_n23 : GoodIn wsX4_init (wsX0_init) := ggX4_init_X0_init
theorem dX4_init_0 : decode cX4_init 0 = .ok (.aload_n 0, 1) := by decide +kernel
theorem dX4_init_1 : decode cX4_init 1 = .ok (.invokespecial 3, 3) := by decide +kernel
theorem dX4_init_4 : decode cX4_init 4 = .ok (.aload_n 0, 1) := by decide +kernel
theorem dX4_init_5 : decode cX4_init 5 = .ok (.new 9, 3) := by decide +kernel
theorem dX4_init_8 : decode cX4_init 8 = .ok (.dup, 1) := by decide +kernel
theorem dX4_init_9 : decode cX4_init 9 = .ok (.invokespecial 11, 3) := by decide +kernel
theorem dX4_init_12 : decode cX4_init 12 = .ok (.putfield 12, 3) := by decide +kernel
theorem dX4_init_15 : decode cX4_init 15 = .ok (.aload_n 0, 1) := by decide +kernel
theorem dX4_init_16 : decode cX4_init 16 = .ok (.new 9, 3) := by decide +kernel
theorem dX4_init_19 : decode cX4_init 19 = .ok (.dup, 1) := by decide +kernel
theorem dX4_init_20 : decode cX4_init 20 = .ok (.invokespecial 11, 3) := by decide +kernel
theorem dX4_init_23 : decode cX4_init 23 = .ok (.putfield 18, 3) := by decide +kernel
theorem dX4_init_26 : decode cX4_init 26 = .ok (.aload_n 0, 1) := by decide +kernel
theorem dX4_init_27 : decode cX4_init 27 = .ok (.new 21, 3) := by decide +kernel
theorem dX4_init_30 : decode cX4_init 30 = .ok (.dup, 1) := by decide +kernel
theorem dX4_init_31 : decode cX4_init 31 = .ok (.invokespecial 23, 3) := by decide +kernel
theorem dX4_init_34 : decode cX4_init 34 = .ok (.putfield 24, 3) := by decide +kernel
theorem dX4_init_37 : decode cX4_init 37 = .ok (.return_, 1) := by decide +kernel
theorem dX4_listOf_0 : decode cX4_listOf 0 = .ok (.iload_n 1, 1) := by decide +kernel
theorem dX4_listOf_1 : decode cX4_listOf 1 = .ok (.ifCond .ne 10, 3) := by decide +kernel
theorem dX4_listOf_4 : decode cX4_listOf 4 = .ok (.aload_n 0, 1) := by decide +kernel
theorem dX4_listOf_5 : decode cX4_listOf 5 = .ok (.getfield 12, 3) := by decide +kernel
theorem dX4_listOf_8 : decode cX4_listOf 8 = .ok (.goto 7, 3) := by decide +kernel
theorem dX4_listOf_11 : decode cX4_listOf 11 = .ok (.aload_n 0, 1) := by decide +kernel
theorem dX4_listOf_12 : decode cX4_listOf 12 = .ok (.getfield 18, 3) := by decide +kernel
theorem dX4_listOf_15 : decode cX4_listOf 15 = .ok (.areturn, 1) := by decide +kernel
set_option maxRecDepth 20000 in
theorem ggX4_sizeOf_X4_listOf : GoodIn wsX4_sizeOf wsX4_listOf := goodIn_r _ [5, 6, 7, 14, 15, 16] (by decide +kernel) (by decide +kernel)
set_option maxRecDepth 20000 in
theorem gX4_sizeOf_X4_listOf : GoodIn wsX4_sizeOf (wsV RX4 28 RX4 yX4_listOf wsX4_listOf) := goodIn_app (goodIn_of _ (by decide +kernel)) ggX4_sizeOf_X4_listOf
set_option maxRecDepth 20000 in
theorem ggX4_sizeOf_Jx4a65c_size_8abf5 : GoodIn wsX4_sizeOf wsJx4a65c_size_8abf5 := goodIn_r _ [12, 13, 17, 18, 19] (by decide +kernel) (by decide +kernel)
set_option maxRecDepth 20000 in
theorem gX4_sizeOf_Jx4a65c_size_8abf5 : GoodIn wsX4_sizeOf (wsV RX4 32 RJx4a65c yJx4a65c_size_8abf5 wsJx4a65c_size_8abf5) := goodIn_app (goodIn_of _ (by decide +kernel)) ggX4_sizeOf_Jx4a65c_size_8abf5
theorem dX4_sizeOf_0 : decode cX4_sizeOf 0 = .ok (.aload_n 0, 1) := by decide +kernel
theorem dX4_sizeOf_1 : decode cX4_sizeOf 1 = .ok (.iload_n 1, 1) := by decide +kernel
theorem dX4_sizeOf_2 : decode cX4_sizeOf 2 = .ok (.invokevirtual 28, 3) := by decide +kernel
theorem dX4_sizeOf_5 : decode cX4_sizeOf 5 = .ok (.invokevirtual 32, 3) := by decide +kernel
theorem dX4_sizeOf_8 : decode cX4_sizeOf 8 = .ok (.ireturn, 1) := by decide +kernel
set_option maxRecDepth 20000 in
theorem ggX4_addPlace_X4_listOf : GoodIn wsX4_addPlace wsX4_listOf := goodIn_r _ [8, 9, 10, 81, 82, 83] (by decide +kernel) (by decide +kernel)
set_option maxRecDepth 20000 in
theorem gX4_addPlace_X4_listOf : GoodIn wsX4_addPlace (wsV RX4 28 RX4 yX4_listOf wsX4_listOf) := goodIn_app (goodIn_of _ (by decide +kernel)) ggX4_addPlace_X4_listOf
set_option maxRecDepth 20000 in
theorem ggX4_addPlace_X0_init : GoodIn wsX4_addPlace wsX0_init := goodIn_r _ [12, 13, 14, 15, 16, 73, 74, 75, 76, 77, 78, 79, 80] (by decide +kernel) (by decide +kernel)
set_option maxRecDepth 20000 in
theorem gX4_addPlace_X0_init_n23 : GoodIn wsX4_addPlace (wsX0_init) := ggX4_addPlace_X0_init
set_option maxRecDepth 20000 in
theorem ggX4_addPlace_Jx4a65c_add_9ea2d : GoodIn wsX4_addPlace wsJx4a65c_add_9ea2d := goodIn_r _ [21, 22, 23, 24, 25, 26, 27, 28, 20, 29, 30, 31, 32, 33, 34, 35, 36, 37, 38, 39, 40, 41, 42, 43, 44, 45, 46, 47, 48, 49, 50, 51, 52, 53, 54, 55, 56, 57, 58, 59, 60, 61, 62, 63, 64, 65, 66, 67, 68, 69, 70, 71, 72, 84, 85, 86] (by decide +kernel) (by decide +kernel)
set_option maxRecDepth 20000 in
theorem gX4_addPlace_Jx4a65c_add_9ea2d : GoodIn wsX4_addPlace (wsV RX4 36 RJx4a65c yJx4a65c_add_9ea2d wsJx4a65c_add_9ea2d) := goodIn_app (goodIn_of _ (by decide +kernel)) ggX4_addPlace_Jx4a65c_add_9ea2d
theorem dX4_addPlace_0 : decode cX4_addPlace 0 = .ok (.aload_n 0, 1) := by decide +kernel
theorem dX4_addPlace_1 : decode cX4_addPlace 1 = .ok (.iload_n 1, 1) := by decide +kernel
theorem dX4_addPlace_2 : decode cX4_addPlace 2 = .ok (.invokevirtual 28, 3) := by decide +kernel
theorem dX4_addPlace_5 : decode cX4_addPlace 5 = .ok (.new 21, 3) := by decide +kernel
theorem dX4_addPlace_8 : decode cX4_addPlace 8 = .ok (.dup, 1) := by decide +kernel
theorem dX4_addPlace_9 : decode cX4_addPlace 9 = .ok (.invokespecial 23, 3) := by decide +kernel
theorem dX4_addPlace_12 : decode cX4_addPlace 12 = .ok (.invokevirtual 36, 3) := by decide +kernel
theorem dX4_addPlace_15 : decode cX4_addPlace 15 = .ok (.pop, 1) := by decide +kernel
theorem dX4_addPlace_16 : decode cX4_addPlace 16 = .ok (.return_, 1) := by decide +kernel
set_option maxRecDepth 20000 in
theorem ggX4_entityAt_X4_listOf : GoodIn wsX4_entityAt wsX4_listOf := goodIn_r _ [7, 8, 9, 33, 34, 35] (by decide +kernel) (by decide +kernel)
set_option maxRecDepth 20000 in
theorem gX4_entityAt_X4_listOf : GoodIn wsX4_entityAt (wsV RX4 28 RX4 yX4_listOf wsX4_listOf) := goodIn_app (goodIn_of _ (by decide +kernel)) ggX4_entityAt_X4_listOf
set_option maxRecDepth 20000 in
theorem ggX4_entityAt_Jx4a65c_size_8abf5 : GoodIn wsX4_entityAt wsJx4a65c_size_8abf5 := goodIn_r _ [14, 15, 36, 37, 38] (by decide +kernel) (by decide +kernel)
set_option maxRecDepth 20000 in
theorem gX4_entityAt_Jx4a65c_size_8abf5 : GoodIn wsX4_entityAt (wsV RX4 32 RJx4a65c yJx4a65c_size_8abf5 wsJx4a65c_size_8abf5) := goodIn_app (goodIn_of _ (by decide +kernel)) ggX4_entityAt_Jx4a65c_size_8abf5
set_option maxRecDepth 20000 in
theorem ggX4_entityAt_Jx4a65c_get_915e3 : GoodIn wsX4_entityAt wsJx4a65c_get_915e3 := goodIn_r _ [19, 15, 20, 21, 22, 23, 24, 25, 26, 27, 28, 29, 30, 13, 31, 32, 36, 37, 38] (by decide +kernel) (by decide +kernel)
set_option maxRecDepth 20000 in
theorem gX4_entityAt_Jx4a65c_get_915e3 : GoodIn wsX4_entityAt (wsV RX4 40 RJx4a65c yJx4a65c_get_915e3 wsJx4a65c_get_915e3) := goodIn_app (goodIn_of _ (by decide +kernel)) ggX4_entityAt_Jx4a65c_get_915e3
theorem dX4_entityAt_0 : decode cX4_entityAt 0 = .ok (.aload_n 0, 1) := by decide +kernel
theorem dX4_entityAt_1 : decode cX4_entityAt 1 = .ok (.iload_n 1, 1) := by decide +kernel
theorem dX4_entityAt_2 : decode cX4_entityAt 2 = .ok (.invokevirtual 28, 3) := by decide +kernel
theorem dX4_entityAt_5 : decode cX4_entityAt 5 = .ok (.astore_n 3, 1) := by decide +kernel
theorem dX4_entityAt_6 : decode cX4_entityAt 6 = .ok (.iload_n 2, 1) := by decide +kernel
theorem dX4_entityAt_7 : decode cX4_entityAt 7 = .ok (.ifCond .lt 11, 3) := by decide +kernel
theorem dX4_entityAt_10 : decode cX4_entityAt 10 = .ok (.iload_n 2, 1) := by decide +kernel
theorem dX4_entityAt_11 : decode cX4_entityAt 11 = .ok (.aload_n 3, 1) := by decide +kernel
theorem dX4_entityAt_12 : decode cX4_entityAt 12 = .ok (.invokevirtual 32, 3) := by decide +kernel
theorem dX4_entityAt_15 : decode cX4_entityAt 15 = .ok (.if_icmp .lt 8, 3) := by decide +kernel
theorem dX4_entityAt_18 : decode cX4_entityAt 18 = .ok (.aload_n 0, 1) := by decide +kernel
theorem dX4_entityAt_19 : decode cX4_entityAt 19 = .ok (.getfield 24, 3) := by decide +kernel
theorem dX4_entityAt_22 : decode cX4_entityAt 22 = .ok (.areturn, 1) := by decide +kernel
theorem dX4_entityAt_23 : decode cX4_entityAt 23 = .ok (.aload_n 3, 1) := by decide +kernel
theorem dX4_entityAt_24 : decode cX4_entityAt 24 = .ok (.iload_n 2, 1) := by decide +kernel
theorem dX4_entityAt_25 : decode cX4_entityAt 25 = .ok (.invokevirtual 40, 3) := by decide +kernel
theorem dX4_entityAt_28 : decode cX4_entityAt 28 = .ok (.checkcast 21, 3) := by decide +kernel
theorem dX4_entityAt_31 : decode cX4_entityAt 31 = .ok (.areturn, 1) := by decide +kernel
set_option maxRecDepth 20000 in
theorem ggX4_countLive_X4_sizeOf : GoodIn wsX4_countLive wsX4_sizeOf := goodIn_r _ [5, 6, 7, 8, 4, 9, 10, 11, 12, 13, 14, 15, 16, 17, 48, 49, 50, 51, 52, 53] (by decide +kernel) (by decide +kernel)
set_option maxRecDepth 20000 in
theorem gX4_countLive_X4_sizeOf : GoodIn wsX4_countLive (wsV RX4 44 RX4 yX4_sizeOf wsX4_sizeOf) := goodIn_app (goodIn_of _ (by decide +kernel)) ggX4_countLive_X4_sizeOf
set_option maxRecDepth 20000 in
theorem ggX4_countLive_X4_entityAt : GoodIn wsX4_countLive wsX4_entityAt := goodIn_r _ [21, 22, 23, 6, 7, 8, 4, 9, 10, 11, 12, 13, 14, 15, 16, 17, 24, 25, 26, 27, 28, 29, 30, 31, 32, 33, 34, 35, 36, 37, 38, 39, 40, 48, 49, 50, 51, 52, 53] (by decide +kernel) (by decide +kernel)
set_option maxRecDepth 20000 in
theorem gX4_countLive_X4_entityAt : GoodIn wsX4_countLive (wsV RX4 48 RX4 yX4_entityAt wsX4_entityAt) := goodIn_app (goodIn_of _ (by decide +kernel)) ggX4_countLive_X4_entityAt
set_option maxRecDepth 20000 in
theorem ggX4_countLive_X0_isLive : GoodIn wsX4_countLive wsX0_isLive := goodIn_r _ [45, 46, 47, 54, 55, 56, 57, 58, 59, 60, 61] (by decide +kernel) (by decide +kernel)
set_option maxRecDepth 20000 in
theorem gX4_countLive_X0_isLive : GoodIn wsX4_countLive (wsV RX4 52 RX0 yX0_isLive wsX0_isLive) := goodIn_app (goodIn_of _ (by decide +kernel)) ggX4_countLive_X0_isLive
theorem dX4_countLive_0 : decode cX4_countLive 0 = .ok (.iconst 0, 1) := by decide +kernel
theorem dX4_countLive_1 : decode cX4_countLive 1 = .ok (.istore_n 2, 1) := by decide +kernel
theorem dX4_countLive_2 : decode cX4_countLive 2 = .ok (.iconst 0, 1) := by decide +kernel
theorem dX4_countLive_3 : decode cX4_countLive 3 = .ok (.istore_n 3, 1) := by decide +kernel
theorem dX4_countLive_4 : decode cX4_countLive 4 = .ok (.iload_n 3, 1) := by decide +kernel
theorem dX4_countLive_5 : decode cX4_countLive 5 = .ok (.aload_n 0, 1) := by decide +kernel
theorem dX4_countLive_6 : decode cX4_countLive 6 = .ok (.iload_n 1, 1) := by decide +kernel
theorem dX4_countLive_7 : decode cX4_countLive 7 = .ok (.invokevirtual 44, 3) := by decide +kernel
theorem dX4_countLive_10 : decode cX4_countLive 10 = .ok (.if_icmp .ge 24, 3) := by decide +kernel
theorem dX4_countLive_13 : decode cX4_countLive 13 = .ok (.aload_n 0, 1) := by decide +kernel
theorem dX4_countLive_14 : decode cX4_countLive 14 = .ok (.iload_n 1, 1) := by decide +kernel
theorem dX4_countLive_15 : decode cX4_countLive 15 = .ok (.iload_n 3, 1) := by decide +kernel
theorem dX4_countLive_16 : decode cX4_countLive 16 = .ok (.invokevirtual 48, 3) := by decide +kernel
theorem dX4_countLive_19 : decode cX4_countLive 19 = .ok (.invokevirtual 52, 3) := by decide +kernel
theorem dX4_countLive_22 : decode cX4_countLive 22 = .ok (.ifCond .eq 6, 3) := by decide +kernel
theorem dX4_countLive_25 : decode cX4_countLive 25 = .ok (.iinc 2 1, 3) := by decide +kernel
theorem dX4_countLive_28 : decode cX4_countLive 28 = .ok (.iinc 3 1, 3) := by decide +kernel
theorem dX4_countLive_31 : decode cX4_countLive 31 = .ok (.goto (-27), 3) := by decide +kernel
theorem dX4_countLive_34 : decode cX4_countLive 34 = .ok (.iload_n 2, 1) := by decide +kernel
theorem dX4_countLive_35 : decode cX4_countLive 35 = .ok (.ireturn, 1) := by decide +kernel
set_option maxRecDepth 20000 in
theorem ggX4_countLiveAndDirty_X4_sizeOf : GoodIn wsX4_countLiveAndDirty wsX4_sizeOf := goodIn_r _ [5, 6, 7, 8, 4, 9, 10, 11, 12, 13, 14, 15, 16, 17, 57, 58, 59, 60, 61, 62] (by decide +kernel) (by decide +kernel)
set_option maxRecDepth 20000 in
theorem gX4_countLiveAndDirty_X4_sizeOf : GoodIn wsX4_countLiveAndDirty (wsV RX4 44 RX4 yX4_sizeOf wsX4_sizeOf) := goodIn_app (goodIn_of _ (by decide +kernel)) ggX4_countLiveAndDirty_X4_sizeOf
set_option maxRecDepth 20000 in
theorem ggX4_countLiveAndDirty_X4_entityAt : GoodIn wsX4_countLiveAndDirty wsX4_entityAt := goodIn_r _ [21, 22, 23, 6, 7, 8, 4, 9, 10, 11, 12, 13, 14, 15, 16, 17, 24, 25, 26, 27, 28, 29, 30, 31, 32, 33, 34, 35, 36, 37, 38, 39, 40, 57, 58, 59, 60, 61, 62] (by decide +kernel) (by decide +kernel)
set_option maxRecDepth 20000 in
theorem gX4_countLiveAndDirty_X4_entityAt : GoodIn wsX4_countLiveAndDirty (wsV RX4 48 RX4 yX4_entityAt wsX4_entityAt) := goodIn_app (goodIn_of _ (by decide +kernel)) ggX4_countLiveAndDirty_X4_entityAt
set_option maxRecDepth 20000 in
theorem ggX4_countLiveAndDirty_X0_isLive : GoodIn wsX4_countLiveAndDirty wsX0_isLive := goodIn_r _ [45, 46, 47, 63, 64, 65, 66, 67, 68, 69, 70] (by decide +kernel) (by decide +kernel)
set_option maxRecDepth 20000 in
theorem gX4_countLiveAndDirty_X0_isLive : GoodIn wsX4_countLiveAndDirty (wsV RX4 52 RX0 yX0_isLive wsX0_isLive) := goodIn_app (goodIn_of _ (by decide +kernel)) ggX4_countLiveAndDirty_X0_isLive
set_option maxRecDepth 20000 in
theorem ggX4_countLiveAndDirty_X0_isChanged : GoodIn wsX4_countLiveAndDirty wsX0_isChanged := goodIn_r _ [51, 52, 53, 54, 55, 56, 63, 64, 65, 66, 67, 68, 69, 70] (by decide +kernel) (by decide +kernel)
set_option maxRecDepth 20000 in
theorem gX4_countLiveAndDirty_X0_isChanged : GoodIn wsX4_countLiveAndDirty (wsV RX4 56 RX0 yX0_isChanged wsX0_isChanged) := goodIn_app (goodIn_of _ (by decide +kernel)) ggX4_countLiveAndDirty_X0_isChanged
theorem dX4_countLiveAndDirty_0 : decode cX4_countLiveAndDirty 0 = .ok (.iconst 0, 1) := by decide +kernel
theorem dX4_countLiveAndDirty_1 : decode cX4_countLiveAndDirty 1 = .ok (.istore_n 2, 1) := by decide +kernel
theorem dX4_countLiveAndDirty_2 : decode cX4_countLiveAndDirty 2 = .ok (.iconst 0, 1) := by decide +kernel
theorem dX4_countLiveAndDirty_3 : decode cX4_countLiveAndDirty 3 = .ok (.istore_n 3, 1) := by decide +kernel
theorem dX4_countLiveAndDirty_4 : decode cX4_countLiveAndDirty 4 = .ok (.iload_n 3, 1) := by decide +kernel
theorem dX4_countLiveAndDirty_5 : decode cX4_countLiveAndDirty 5 = .ok (.aload_n 0, 1) := by decide +kernel
theorem dX4_countLiveAndDirty_6 : decode cX4_countLiveAndDirty 6 = .ok (.iload_n 1, 1) := by decide +kernel
theorem dX4_countLiveAndDirty_7 : decode cX4_countLiveAndDirty 7 = .ok (.invokevirtual 44, 3) := by decide +kernel
theorem dX4_countLiveAndDirty_10 : decode cX4_countLiveAndDirty 10 = .ok (.if_icmp .ge 36, 3) := by decide +kernel
theorem dX4_countLiveAndDirty_13 : decode cX4_countLiveAndDirty 13 = .ok (.aload_n 0, 1) := by decide +kernel
theorem dX4_countLiveAndDirty_14 : decode cX4_countLiveAndDirty 14 = .ok (.iload_n 1, 1) := by decide +kernel
theorem dX4_countLiveAndDirty_15 : decode cX4_countLiveAndDirty 15 = .ok (.iload_n 3, 1) := by decide +kernel
theorem dX4_countLiveAndDirty_16 : decode cX4_countLiveAndDirty 16 = .ok (.invokevirtual 48, 3) := by decide +kernel
theorem dX4_countLiveAndDirty_19 : decode cX4_countLiveAndDirty 19 = .ok (.astore 4, 2) := by decide +kernel
theorem dX4_countLiveAndDirty_21 : decode cX4_countLiveAndDirty 21 = .ok (.aload 4, 2) := by decide +kernel
theorem dX4_countLiveAndDirty_23 : decode cX4_countLiveAndDirty 23 = .ok (.invokevirtual 52, 3) := by decide +kernel
theorem dX4_countLiveAndDirty_26 : decode cX4_countLiveAndDirty 26 = .ok (.ifCond .eq 14, 3) := by decide +kernel
theorem dX4_countLiveAndDirty_29 : decode cX4_countLiveAndDirty 29 = .ok (.aload 4, 2) := by decide +kernel
theorem dX4_countLiveAndDirty_31 : decode cX4_countLiveAndDirty 31 = .ok (.invokevirtual 56, 3) := by decide +kernel
theorem dX4_countLiveAndDirty_34 : decode cX4_countLiveAndDirty 34 = .ok (.ifCond .eq 6, 3) := by decide +kernel
theorem dX4_countLiveAndDirty_37 : decode cX4_countLiveAndDirty 37 = .ok (.iinc 2 1, 3) := by decide +kernel
theorem dX4_countLiveAndDirty_40 : decode cX4_countLiveAndDirty 40 = .ok (.iinc 3 1, 3) := by decide +kernel
theorem dX4_countLiveAndDirty_43 : decode cX4_countLiveAndDirty 43 = .ok (.goto (-39), 3) := by decide +kernel
theorem dX4_countLiveAndDirty_46 : decode cX4_countLiveAndDirty 46 = .ok (.iload_n 2, 1) := by decide +kernel
theorem dX4_countLiveAndDirty_47 : decode cX4_countLiveAndDirty 47 = .ok (.ireturn, 1) := by decide +kernel
set_option maxRecDepth 20000 in
theorem ggX4_forgetAll_X4_sizeOf : GoodIn wsX4_forgetAll wsX4_sizeOf := goodIn_r _ [5, 6, 7, 8, 4, 9, 10, 11, 12, 13, 14, 15, 16, 17, 49, 50, 51, 52, 53, 54] (by decide +kernel) (by decide +kernel)
set_option maxRecDepth 20000 in
theorem gX4_forgetAll_X4_sizeOf : GoodIn wsX4_forgetAll (wsV RX4 44 RX4 yX4_sizeOf wsX4_sizeOf) := goodIn_app (goodIn_of _ (by decide +kernel)) ggX4_forgetAll_X4_sizeOf
set_option maxRecDepth 20000 in
theorem ggX4_forgetAll_X4_entityAt : GoodIn wsX4_forgetAll wsX4_entityAt := goodIn_r _ [21, 22, 23, 6, 7, 8, 4, 9, 10, 11, 12, 13, 14, 15, 16, 17, 24, 25, 26, 27, 28, 29, 30, 31, 32, 33, 34, 35, 36, 37, 38, 39, 40, 49, 50, 51, 52, 53, 54] (by decide +kernel) (by decide +kernel)
set_option maxRecDepth 20000 in
theorem gX4_forgetAll_X4_entityAt : GoodIn wsX4_forgetAll (wsV RX4 48 RX4 yX4_entityAt wsX4_entityAt) := goodIn_app (goodIn_of _ (by decide +kernel)) ggX4_forgetAll_X4_entityAt
set_option maxRecDepth 20000 in
theorem ggX4_forgetAll_X0_forget : GoodIn wsX4_forgetAll wsX0_forget := goodIn_r _ [45, 46, 47, 48, 55, 56, 57, 58, 59, 60, 61, 62] (by decide +kernel) (by decide +kernel)
set_option maxRecDepth 20000 in
theorem gX4_forgetAll_X0_forget : GoodIn wsX4_forgetAll (wsV RX4 59 RX0 yX0_forget wsX0_forget) := goodIn_app (goodIn_of _ (by decide +kernel)) ggX4_forgetAll_X0_forget
theorem dX4_forgetAll_0 : decode cX4_forgetAll 0 = .ok (.iconst 0, 1) := by decide +kernel
theorem dX4_forgetAll_1 : decode cX4_forgetAll 1 = .ok (.istore_n 2, 1) := by decide +kernel
theorem dX4_forgetAll_2 : decode cX4_forgetAll 2 = .ok (.iload_n 2, 1) := by decide +kernel
theorem dX4_forgetAll_3 : decode cX4_forgetAll 3 = .ok (.aload_n 0, 1) := by decide +kernel
theorem dX4_forgetAll_4 : decode cX4_forgetAll 4 = .ok (.iload_n 1, 1) := by decide +kernel
theorem dX4_forgetAll_5 : decode cX4_forgetAll 5 = .ok (.invokevirtual 44, 3) := by decide +kernel
theorem dX4_forgetAll_8 : decode cX4_forgetAll 8 = .ok (.if_icmp .ge 18, 3) := by decide +kernel
theorem dX4_forgetAll_11 : decode cX4_forgetAll 11 = .ok (.aload_n 0, 1) := by decide +kernel
theorem dX4_forgetAll_12 : decode cX4_forgetAll 12 = .ok (.iload_n 1, 1) := by decide +kernel
theorem dX4_forgetAll_13 : decode cX4_forgetAll 13 = .ok (.iload_n 2, 1) := by decide +kernel
theorem dX4_forgetAll_14 : decode cX4_forgetAll 14 = .ok (.invokevirtual 48, 3) := by decide +kernel
theorem dX4_forgetAll_17 : decode cX4_forgetAll 17 = .ok (.invokevirtual 59, 3) := by decide +kernel
theorem dX4_forgetAll_20 : decode cX4_forgetAll 20 = .ok (.iinc 2 1, 3) := by decide +kernel
theorem dX4_forgetAll_23 : decode cX4_forgetAll 23 = .ok (.goto (-21), 3) := by decide +kernel
theorem dX4_forgetAll_26 : decode cX4_forgetAll 26 = .ok (.return_, 1) := by decide +kernel
set_option maxRecDepth 20000 in
theorem ggX5_init_Jx4a65c_init_da8c8 : GoodIn wsX5_init wsJx4a65c_init_da8c8 := goodIn_r _ [14, 15, 16, 17, 18, 19, 20, 21, 22, 23, 24, 25, 26, 2, 3, 31, 32, 33] (by decide +kernel) (by decide +kernel)
set_option maxRecDepth 20000 in
theorem gX5_init_Jx4a65c_init_da8c8 : GoodIn wsX5_init (wsJx4a65c_init_da8c8) := ggX5_init_Jx4a65c_init_da8c8
set_option maxRecDepth 20000 in
theorem ggX5_init_X3_init : GoodIn wsX5_init wsX3_init := goodIn_r _ [28, 29, 2, 3, 30, 36, 37, 38, 39] (by decide +kernel) (by decide +kernel)
set_option maxRecDepth 20000 in
theorem gX5_init_X3_init_n18 : GoodIn wsX5_init (wsX3_init) := ggX5_init_X3_init
theorem dX5_init_0 : decode cX5_init 0 = .ok (.aload_n 0, 1) := by decide +kernel
theorem dX5_init_1 : decode cX5_init 1 = .ok (.invokespecial 1, 3) := by decide +kernel
theorem dX5_init_4 : decode cX5_init 4 = .ok (.aload_n 0, 1) := by decide +kernel
theorem dX5_init_5 : decode cX5_init 5 = .ok (.new 7, 3) := by decide +kernel
theorem dX5_init_8 : decode cX5_init 8 = .ok (.dup, 1) := by decide +kernel
theorem dX5_init_9 : decode cX5_init 9 = .ok (.invokespecial 9, 3) := by decide +kernel
theorem dX5_init_12 : decode cX5_init 12 = .ok (.putfield 10, 3) := by decide +kernel
theorem dX5_init_15 : decode cX5_init 15 = .ok (.aload_n 0, 1) := by decide +kernel
theorem dX5_init_16 : decode cX5_init 16 = .ok (.new 16, 3) := by decide +kernel
theorem dX5_init_19 : decode cX5_init 19 = .ok (.dup, 1) := by decide +kernel
theorem dX5_init_20 : decode cX5_init 20 = .ok (.invokespecial 18, 3) := by decide +kernel
theorem dX5_init_23 : decode cX5_init 23 = .ok (.putfield 19, 3) := by decide +kernel
theorem dX5_init_26 : decode cX5_init 26 = .ok (.return_, 1) := by decide +kernel
set_option maxRecDepth 20000 in
theorem ggX5_size_Jx4a65c_size_8abf5 : GoodIn wsX5_size wsJx4a65c_size_8abf5 := goodIn_r _ [6, 7, 10, 11, 12] (by decide +kernel) (by decide +kernel)
set_option maxRecDepth 20000 in
theorem gX5_size_Jx4a65c_size_8abf5 : GoodIn wsX5_size (wsV RX5 23 RJx4a65c yJx4a65c_size_8abf5 wsJx4a65c_size_8abf5) := goodIn_app (goodIn_of _ (by decide +kernel)) ggX5_size_Jx4a65c_size_8abf5
theorem dX5_size_0 : decode cX5_size 0 = .ok (.aload_n 0, 1) := by decide +kernel
theorem dX5_size_1 : decode cX5_size 1 = .ok (.getfield 10, 3) := by decide +kernel
theorem dX5_size_4 : decode cX5_size 4 = .ok (.invokevirtual 23, 3) := by decide +kernel
theorem dX5_size_7 : decode cX5_size 7 = .ok (.ireturn, 1) := by decide +kernel
set_option maxRecDepth 20000 in
theorem ggX5_addPlace_X3_init : GoodIn wsX5_addPlace wsX3_init := goodIn_r _ [6, 7, 8, 9, 10, 69, 70, 71, 72] (by decide +kernel) (by decide +kernel)
set_option maxRecDepth 20000 in
theorem gX5_addPlace_X3_init_n18 : GoodIn wsX5_addPlace (wsX3_init) := ggX5_addPlace_X3_init
set_option maxRecDepth 20000 in
theorem ggX5_addPlace_Jx4a65c_add_9ea2d : GoodIn wsX5_addPlace wsJx4a65c_add_9ea2d := goodIn_r _ [15, 16, 17, 18, 19, 20, 21, 22, 14, 23, 24, 25, 26, 27, 28, 29, 30, 31, 32, 33, 34, 35, 36, 37, 38, 39, 40, 41, 42, 43, 44, 45, 46, 47, 48, 49, 50, 51, 52, 53, 54, 55, 56, 57, 58, 59, 60, 61, 62, 63, 64, 65, 66, 73, 74, 75] (by decide +kernel) (by decide +kernel)
set_option maxRecDepth 20000 in
theorem gX5_addPlace_Jx4a65c_add_9ea2d : GoodIn wsX5_addPlace (wsV RX5 27 RJx4a65c yJx4a65c_add_9ea2d wsJx4a65c_add_9ea2d) := goodIn_app (goodIn_of _ (by decide +kernel)) ggX5_addPlace_Jx4a65c_add_9ea2d
theorem dX5_addPlace_0 : decode cX5_addPlace 0 = .ok (.aload_n 0, 1) := by decide +kernel
theorem dX5_addPlace_1 : decode cX5_addPlace 1 = .ok (.getfield 10, 3) := by decide +kernel
theorem dX5_addPlace_4 : decode cX5_addPlace 4 = .ok (.new 16, 3) := by decide +kernel
theorem dX5_addPlace_7 : decode cX5_addPlace 7 = .ok (.dup, 1) := by decide +kernel
theorem dX5_addPlace_8 : decode cX5_addPlace 8 = .ok (.invokespecial 18, 3) := by decide +kernel
theorem dX5_addPlace_11 : decode cX5_addPlace 11 = .ok (.invokevirtual 27, 3) := by decide +kernel
theorem dX5_addPlace_14 : decode cX5_addPlace 14 = .ok (.pop, 1) := by decide +kernel
theorem dX5_addPlace_15 : decode cX5_addPlace 15 = .ok (.return_, 1) := by decide +kernel
set_option maxRecDepth 20000 in
theorem ggX5_rowAt_Jx4a65c_size_8abf5 : GoodIn wsX5_rowAt wsJx4a65c_size_8abf5 := goodIn_r _ [8, 9, 29, 30, 31] (by decide +kernel) (by decide +kernel)
set_option maxRecDepth 20000 in
theorem gX5_rowAt_Jx4a65c_size_8abf5 : GoodIn wsX5_rowAt (wsV RX5 23 RJx4a65c yJx4a65c_size_8abf5 wsJx4a65c_size_8abf5) := goodIn_app (goodIn_of _ (by decide +kernel)) ggX5_rowAt_Jx4a65c_size_8abf5
set_option maxRecDepth 20000 in
theorem ggX5_rowAt_Jx4a65c_get_915e3 : GoodIn wsX5_rowAt wsJx4a65c_get_915e3 := goodIn_r _ [13, 9, 14, 15, 16, 17, 18, 19, 20, 21, 22, 23, 24, 7, 25, 26, 29, 30, 31] (by decide +kernel) (by decide +kernel)
set_option maxRecDepth 20000 in
theorem gX5_rowAt_Jx4a65c_get_915e3 : GoodIn wsX5_rowAt (wsV RX5 31 RJx4a65c yJx4a65c_get_915e3 wsJx4a65c_get_915e3) := goodIn_app (goodIn_of _ (by decide +kernel)) ggX5_rowAt_Jx4a65c_get_915e3
theorem dX5_rowAt_0 : decode cX5_rowAt 0 = .ok (.iload_n 1, 1) := by decide +kernel
theorem dX5_rowAt_1 : decode cX5_rowAt 1 = .ok (.ifCond .lt 14, 3) := by decide +kernel
theorem dX5_rowAt_4 : decode cX5_rowAt 4 = .ok (.iload_n 1, 1) := by decide +kernel
theorem dX5_rowAt_5 : decode cX5_rowAt 5 = .ok (.aload_n 0, 1) := by decide +kernel
theorem dX5_rowAt_6 : decode cX5_rowAt 6 = .ok (.getfield 10, 3) := by decide +kernel
theorem dX5_rowAt_9 : decode cX5_rowAt 9 = .ok (.invokevirtual 23, 3) := by decide +kernel
theorem dX5_rowAt_12 : decode cX5_rowAt 12 = .ok (.if_icmp .lt 8, 3) := by decide +kernel
theorem dX5_rowAt_15 : decode cX5_rowAt 15 = .ok (.aload_n 0, 1) := by decide +kernel
theorem dX5_rowAt_16 : decode cX5_rowAt 16 = .ok (.getfield 19, 3) := by decide +kernel
theorem dX5_rowAt_19 : decode cX5_rowAt 19 = .ok (.areturn, 1) := by decide +kernel
theorem dX5_rowAt_20 : decode cX5_rowAt 20 = .ok (.aload_n 0, 1) := by decide +kernel
theorem dX5_rowAt_21 : decode cX5_rowAt 21 = .ok (.getfield 10, 3) := by decide +kernel
theorem dX5_rowAt_24 : decode cX5_rowAt 24 = .ok (.iload_n 1, 1) := by decide +kernel
theorem dX5_rowAt_25 : decode cX5_rowAt 25 = .ok (.invokevirtual 31, 3) := by decide +kernel
theorem dX5_rowAt_28 : decode cX5_rowAt 28 = .ok (.checkcast 16, 3) := by decide +kernel
theorem dX5_rowAt_31 : decode cX5_rowAt 31 = .ok (.areturn, 1) := by decide +kernel
set_option maxRecDepth 20000 in
theorem ggX5_countThere_Jx4a65c_size_8abf5 : GoodIn wsX5_countThere wsJx4a65c_size_8abf5 := goodIn_r _ [7, 8, 39, 40, 41] (by decide +kernel) (by decide +kernel)
set_option maxRecDepth 20000 in
theorem gX5_countThere_Jx4a65c_size_8abf5 : GoodIn wsX5_countThere (wsV RX5 23 RJx4a65c yJx4a65c_size_8abf5 wsJx4a65c_size_8abf5) := goodIn_app (goodIn_of _ (by decide +kernel)) ggX5_countThere_Jx4a65c_size_8abf5
set_option maxRecDepth 20000 in
theorem ggX5_countThere_X5_rowAt : GoodIn wsX5_countThere wsX5_rowAt := goodIn_r _ [13, 1, 14, 15, 3, 4, 5, 6, 7, 8, 16, 17, 18, 19, 20, 21, 22, 23, 24, 25, 26, 27, 28, 29, 30, 31, 32, 33, 34, 39, 40, 41] (by decide +kernel) (by decide +kernel)
set_option maxRecDepth 20000 in
theorem gX5_countThere_X5_rowAt : GoodIn wsX5_countThere (wsV RX5 35 RX5 yX5_rowAt wsX5_rowAt) := goodIn_app (goodIn_of _ (by decide +kernel)) ggX5_countThere_X5_rowAt
theorem dX5_countThere_0 : decode cX5_countThere 0 = .ok (.iconst 0, 1) := by decide +kernel
theorem dX5_countThere_1 : decode cX5_countThere 1 = .ok (.istore_n 1, 1) := by decide +kernel
theorem dX5_countThere_2 : decode cX5_countThere 2 = .ok (.iconst 0, 1) := by decide +kernel
theorem dX5_countThere_3 : decode cX5_countThere 3 = .ok (.istore_n 2, 1) := by decide +kernel
theorem dX5_countThere_4 : decode cX5_countThere 4 = .ok (.iload_n 2, 1) := by decide +kernel
theorem dX5_countThere_5 : decode cX5_countThere 5 = .ok (.aload_n 0, 1) := by decide +kernel
theorem dX5_countThere_6 : decode cX5_countThere 6 = .ok (.getfield 10, 3) := by decide +kernel
theorem dX5_countThere_9 : decode cX5_countThere 9 = .ok (.invokevirtual 23, 3) := by decide +kernel
theorem dX5_countThere_12 : decode cX5_countThere 12 = .ok (.if_icmp .ge 23, 3) := by decide +kernel
theorem dX5_countThere_15 : decode cX5_countThere 15 = .ok (.aload_n 0, 1) := by decide +kernel
theorem dX5_countThere_16 : decode cX5_countThere 16 = .ok (.iload_n 2, 1) := by decide +kernel
theorem dX5_countThere_17 : decode cX5_countThere 17 = .ok (.invokevirtual 35, 3) := by decide +kernel
theorem dX5_countThere_20 : decode cX5_countThere 20 = .ok (.getfield 39, 3) := by decide +kernel
theorem dX5_countThere_23 : decode cX5_countThere 23 = .ok (.ifCond .eq 6, 3) := by decide +kernel
theorem dX5_countThere_26 : decode cX5_countThere 26 = .ok (.iinc 1 1, 3) := by decide +kernel
theorem dX5_countThere_29 : decode cX5_countThere 29 = .ok (.iinc 2 1, 3) := by decide +kernel
theorem dX5_countThere_32 : decode cX5_countThere 32 = .ok (.goto (-28), 3) := by decide +kernel
theorem dX5_countThere_35 : decode cX5_countThere 35 = .ok (.iload_n 1, 1) := by decide +kernel
theorem dX5_countThere_36 : decode cX5_countThere 36 = .ok (.ireturn, 1) := by decide +kernel
set_option maxRecDepth 20000 in
theorem ggX6_init_X5_init : GoodIn wsX6_init wsX5_init := goodIn_r _ [18, 19, 2, 3, 20, 21, 22, 23, 24, 25, 26, 27, 28, 29, 30, 31, 32, 33, 34, 35, 36, 37, 38, 39, 40, 41, 42, 43, 44, 45, 46, 80, 81, 82, 68, 69, 83, 84, 85, 86] (by decide +kernel) (by decide +kernel)
set_option maxRecDepth 20000 in
theorem gX6_init_X5_init_n9 : GoodIn wsX6_init (wsX5_init) := ggX6_init_X5_init
set_option maxRecDepth 20000 in
theorem ggX6_init_X2_init : GoodIn wsX6_init wsX2_init := goodIn_r _ [48, 49, 2, 3, 50, 51, 52, 74, 75, 76] (by decide +kernel) (by decide +kernel)
set_option maxRecDepth 20000 in
theorem gX6_init_X2_init_n21 : GoodIn wsX6_init (wsX2_init) := ggX6_init_X2_init
set_option maxRecDepth 20000 in
theorem ggX6_init_X4_init : GoodIn wsX6_init wsX4_init := goodIn_r _ [54, 55, 2, 3, 56, 21, 22, 57, 58, 59, 60, 61, 62, 63, 29, 30, 31, 32, 33, 34, 35, 36, 37, 38, 39, 40, 41, 42, 64, 65, 66, 67, 80, 81, 82, 77, 78, 79, 87, 88, 89, 90, 91, 92, 93, 94] (by decide +kernel) (by decide +kernel)
set_option maxRecDepth 20000 in
theorem gX6_init_X4_init_n32 : GoodIn wsX6_init (wsX4_init) := ggX6_init_X4_init
end
section
/-! WORLDS BY ADDRESS: a world is a function from addresses to what lies there -/
abbrev gM : Type := Nat → Option va_E
abbrev gG : Type := va_G × (Nat → ClassId)
def tyL (cA : Nat → ClassId) : List (ClassId × FieldType) := [(cA 0, .int), (cA 1, .boolean), (cA 2, .long), (cA 3, .object "java/lang/Object"), (cA 4, .object "ObjectMapper$Session")]
def mu (M : gM) (a : Nat) (e : va_E) : gM := fun b => if b = a then some e else M b
theorem mu_s (M : gM) (a : Nat) (e : va_E) : mu M a e a = some e := by simp [mu]
theorem mu_n {M : gM} {a b : Nat} {e : va_E} (h : b ≠ a) : mu M a e b = M b := by simp [mu, h]
theorem mu_g {M : gM} {a b : Nat} {e x : va_E} (hb : M b = some x) (h : b ≠ a) : mu M a e b = some x := by rw [mu_n h]; exact hb
theorem mu_mu (M : gM) (a : Nat) (e f : va_E) : mu (mu M a e) a f = mu M a f := by
  funext b
  by_cases h : b = a <;> simp [mu, h]
theorem gM_ne {M : gM} {a b : Nat} {x y : va_E} (ha : M a = some x) (hb : M b = some y) (h : x ≠ y) : a ≠ b := fun e => h (by rw [e, hb] at ha; exact (Option.some.inj ha).symm)
theorem gM_nn {M : gM} {q b : Nat} {x : va_E} (hq : M q = none) (hb : M b = some x) : b ≠ q := fun e => by rw [e, hq] at hb; cases hb
def wd (G : gG) (A : Nat → Prop) (M : gM) (H : Heap) : Prop := ∃ ws : va_W, va_P G.1 vwCl ws H ∧ va_D A ws ∧ ∀ (a : Nat) (e : va_E), M a = some e ↔ (a, e) ∈ ws
def wA (M : gM) (sz : Nat) : Nat → Prop := fun q => (∃ e, M q = some e) ∨ sz ≤ q
abbrev wK (G : gG) (s : State) : Prop := va_K G.1 vwCl (tyL G.2) s
theorem wd.lt {G : gG} {A : Nat → Prop} {M : gM} {H : Heap} (h : wd G A M H) {a : Nat} {e : va_E} (ha : M a = some e) : a < H.size := by
  obtain ⟨ws, hP, hD, hM⟩ := h
  obtain ⟨k, hk⟩ := List.getElem?_of_mem ((hM a e).mp ha)
  exact (hP k _ hk).lt
theorem wd.in {G : gG} {A : Nat → Prop} {M : gM} {H : Heap} (h : wd G A M H) {a : Nat} {e : va_E} (ha : M a = some e) : A a := by
  obtain ⟨ws, hP, hD, hM⟩ := h
  obtain ⟨k, hk⟩ := List.getElem?_of_mem ((hM a e).mp ha)
  exact hD.2 k _ hk
theorem wd.fresh {G : gG} {A : Nat → Prop} {M : gM} {H : Heap} (h : wd G A M H) {a : Nat} (ha : H.size ≤ a) : M a = none := by
  cases e : M a with
  | none => rfl
  | some x => exact absurd (h.lt e) (by omega)
theorem wd.weaken {G : gG} {A B : Nat → Prop} {M : gM} {H : Heap} (h : wd G A M H) (hAB : ∀ q e, M q = some e → B q) : wd G B M H := by
  obtain ⟨ws, hP, hD, hM⟩ := h
  exact ⟨ws, hP, hD.weaken (fun k q hk _ => hAB q.1 q.2 ((hM q.1 q.2).mpr (List.mem_of_getElem? hk))), hM⟩
theorem wd.kept {G : gG} {A : Nat → Prop} {M : gM} {H H1 : Heap} (h : wd G A M H) (hk : ∀ q e, M q = some e → H1[q]? = H[q]?) : wd G A M H1 := by
  obtain ⟨ws, hP, hD, hM⟩ := h
  exact ⟨ws, hP.kept (fun k q hq => hk q.1 q.2 ((hM q.1 q.2).mpr (List.mem_of_getElem? hq))), hD, hM⟩
theorem wd.free {G : gG} {A : Nat → Prop} {M : gM} {H H0 : Heap} {locs : List Loc} (h : wd G A M H) (hS : va_S A H0 H locs) (hA : ∀ q, H0.size ≤ q → A q) : ∀ q, wA M H.size q → A q := by
  intro q hq
  rcases hq with ⟨e, hq⟩ | hq
  · exact h.in hq
  · exact hA q (Nat.le_trans hS.1 hq)
theorem wd_set {M : gM} {ws : va_W} {A : Nat → Prop} {k a : Nat} {e0 e' : va_E} (hD : va_D A ws) (hM : ∀ (a : Nat) (e : va_E), M a = some e ↔ (a, e) ∈ ws) (hk : ws[k]? = some (a, e0)) : ∀ (b : Nat) (e : va_E), mu M a e' b = some e ↔ (b, e) ∈ ws.set k (a, e') := by
  have hl := (List.getElem?_eq_some_iff.mp hk).1
  intro b e
  by_cases hb : b = a
  · subst hb
    rw [mu_s]
    constructor
    · intro h
      cases h
      exact List.mem_of_getElem? (List.getElem?_set_self hl)
    · intro h
      obtain ⟨j, hj⟩ := List.getElem?_of_mem h
      by_cases hjk : j = k
      · subst hjk
        rw [List.getElem?_set_self hl] at hj
        cases hj
        rfl
      · rw [List.getElem?_set_ne (Ne.symm hjk)] at hj
        exact absurd (hD.1 j k _ _ hj hk rfl) hjk
  · rw [mu_n hb, hM b e]
    constructor
    · intro h
      obtain ⟨j, hj⟩ := List.getElem?_of_mem h
      have hjk : j ≠ k := fun q => by
        subst q
        rw [hk] at hj
        cases hj
        exact hb rfl
      exact List.mem_of_getElem? (i := j) (by rw [List.getElem?_set_ne (Ne.symm hjk)]; exact hj)
    · intro h
      obtain ⟨j, hj⟩ := List.getElem?_of_mem h
      by_cases hjk : j = k
      · subst hjk
        rw [List.getElem?_set_self hl] at hj
        cases hj
        exact absurd rfl hb
      · rw [List.getElem?_set_ne (Ne.symm hjk)] at hj
        exact List.mem_of_getElem? hj
theorem wd_push {M : gM} {ws : va_W} {A : Nat → Prop} {a : Nat} {e' : va_E} (hD : va_D A (ws ++ [(a, e')])) (hM : ∀ (a : Nat) (e : va_E), M a = some e ↔ (a, e) ∈ ws) : M a = none ∧ ∀ (b : Nat) (e : va_E), mu M a e' b = some e ↔ (b, e) ∈ ws ++ [(a, e')] := by
  have hn : M a = none := by
    cases h : M a with
    | none => rfl
    | some x =>
      obtain ⟨j, hj⟩ := List.getElem?_of_mem ((hM a x).mp h)
      have hl := (List.getElem?_eq_some_iff.mp hj).1
      have h1 : (ws ++ [(a, e')])[j]? = some (a, x) := by rw [List.getElem?_append_left hl]; exact hj
      have h2 : (ws ++ [(a, e')])[ws.length]? = some (a, e') := by rw [List.getElem?_append_right (Nat.le_refl _), Nat.sub_self]; rfl
      exact absurd (hD.1 _ _ _ _ h1 h2 rfl) (by omega)
  refine ⟨hn, fun b e => ?_⟩
  rw [List.mem_append, List.mem_singleton]
  by_cases hb : b = a
  · subst hb
    rw [mu_s]
    constructor
    · intro h
      cases h
      exact Or.inr rfl
    · intro h
      rcases h with h | h
      · rw [(hM b e).mpr h] at hn
        cases hn
      · cases h
        rfl
  · rw [mu_n hb, hM b e]
    constructor
    · exact Or.inl
    · intro h
      rcases h with h | h
      · exact h
      · cases h
        exact absurd rfl hb
/-- what a method may take as given of the statics and the constants (none of them a cell of its world) -/
def envC : List (String × String) := [("java/lang/IllegalArgumentException", "java/lang/IllegalArgumentException"), ("java/lang/IllegalStateException", "java/lang/IllegalStateException"), ("java/lang/IndexOutOfBoundsException", "java/lang/IndexOutOfBoundsException"), ("ObjectMapper$Entity", "java/lang/Object"), ("ObjectMapper$Row", "java/lang/Object")]
def envN : List (String × String) := [("java/lang/IllegalArgumentException", "java/lang/IllegalStateException"), ("java/lang/IllegalArgumentException", "java/lang/IndexOutOfBoundsException"), ("java/lang/IllegalStateException", "java/lang/IllegalArgumentException"), ("java/lang/IllegalStateException", "java/lang/IndexOutOfBoundsException"), ("java/lang/IndexOutOfBoundsException", "java/lang/IllegalArgumentException"), ("java/lang/IndexOutOfBoundsException", "java/lang/IllegalStateException")]
def envT : List (Nat × String) := [(100, "a book needs an author"), (130, "too many writes"), (144, "the flush fails"), (179, "no such session"), (182, "no such kind"), (184, "name out of range"), (186, "object not known or removed"), (188, "no such row"), (190, "no such write")]
def envK : List (String × Nat × MethodName × String) := [(RX6, 9, yX5_init, RX6), (RX5, 18, yX3_init, RX6), (RX6, 21, yX2_init, RX6), (RX6, 32, yX4_init, RX6), (RX4, 23, yX0_init, RX6), (RX1, 67, yX6_otherKind, RX6)]
def wE (U : State) : Prop := (∀ q ∈ envC, va_Nw (.castable q.1 q.2) U) ∧ (∀ q ∈ envN, va_Nc q.1 q.2 U) ∧ (∀ q ∈ envT, ∃ sa : Nat, vk_R RX6 q.1 q.2 sa U) ∧ va_AO "java/lang/Object" U ∧ va_AO "ObjectMapper$Session" U ∧ (∀ q ∈ envK, va_Nw (.methodLinkNest q.1 q.2.1 q.2.2.1 q.2.2.2) U)
theorem wE.warm {u U : State} (hW : u.WarmedH U.vm) (h : wE u) : wE U := ⟨fun q hq => (h.1 q hq).warmC hW, fun q hq => va_Nc.moved hW.alike (h.2.1 q hq), fun q hq => by obtain ⟨sa, h1⟩ := h.2.2.1 q hq; exact ⟨sa, vk_R.warm hW h1⟩, va_AO.moved hW.alike h.2.2.2.1, va_AO.moved hW.alike h.2.2.2.2.1, fun q hq => (h.2.2.2.2.2 q hq).warmM hW⟩
def wZ (dce : Nat) (A : Nat → Prop) (U : State) (H : Heap) : Prop := vx_Zq Bundle.tN "UNASSIGNED_STACK" Bundle.steD A U H ∧ vx_Zq Bundle.tN "SUPPRESSED_SENTINEL" Bundle.listD A U H ∧ va_Z "java/util/ArrayList" "DEFAULTCAPACITY_EMPTY_ELEMENTDATA" "[Ljava/lang/Object;" (.ref dce) A U H ∧ va_T (.object "java/lang/Object") dce 0 (fun _ => .null) A U H ∧ wE U
theorem wZ.warm {dce : Nat} {A : Nat → Prop} {u U : State} {H : Heap} (hW : u.WarmedH U.vm) (h : wZ dce A u H) : wZ dce A U H := ⟨h.1.moved hW.alike, h.2.1.moved hW.alike, h.2.2.1.moved hW.alike, h.2.2.2.1.moved hW.alike, h.2.2.2.2.warm hW⟩
theorem wZ.kept {dce : Nat} {A : Nat → Prop} {U : State} {H H1 : Heap} (h : wZ dce A U H) (hq : ∀ a : Nat, a < H.size → ¬ A a → H1[a]? = H[a]?) : wZ dce A U H1 := ⟨h.1.kept hq, h.2.1.kept hq, h.2.2.1.kept hq, h.2.2.2.1.kept hq, h.2.2.2.2⟩
theorem wZ.narrow {dce : Nat} {A B : Nat → Prop} {U : State} {H : Heap} (h : wZ dce A U H) (hAB : ∀ q, B q → A q) : wZ dce B U H := ⟨h.1.narrow hAB, h.2.1.narrow hAB, h.2.2.1.narrow hAB, h.2.2.2.1.narrow hAB, h.2.2.2.2⟩
/-- a method's start; its end -/
def wB (G : gG) (dce : Nat) (sz : Nat) (M : gM) (U : State) : Prop := U.heap.size = sz ∧ wd G (fun _ => True) M U.heap ∧ wK G U ∧ wZ dce (wA M sz) U U.heap
def wT (G : gG) (M0 : gM) (sz : Nat) (M : gM) (t : State) : Prop := wd G (wA M0 sz) M t.heap ∧ wK G t
theorem wB_blind {G : gG} {dce sz : Nat} {M : gM} {av : List Value} : FrameBlind (va_Pc av (wB G dce sz M)) := fun a U g mk q => by
  obtain ⟨q0, q1, q2, q3, q4⟩ := q
  exact ⟨q0, q1, q2, va_K.moved (u := U) (U := U.calling g mk a) (Vm.Alike.refl U.vm) q3, wZ.warm (u := U) (U := U.calling g mk a) (State.WarmedH.refl U) q4⟩
/-- what stands at a method's head, once for all rows -/
def cX (p : Program) (s : State) (m : MethodId) (meth : Method) (c : Code) (cc : ByteArray) (nL : Nat) (ret : Option FieldType) (Ts : List Cond) (own : String) (args : Array Value) : Prop := p.tables.exec = Jvm.exec ∧ c.code = cc ∧ meth.sig.returnType = ret ∧ (∀ w ∈ Ts, w.before args s = true) ∧ s.vm.findClass own = some m.cls ∧ meth.locks = false ∧ c.maxLocals = nL
theorem wMet {l : Launch} {y : MethodName} {ws ws' : List Cond} {rm : Room} {Qc : (Nat → Prop) → Array Value → State → Outcome → State → Prop} {mc ms : Nat} {cc : ByteArray} {maxL : Nat} {ret : Option FieldType} {G : gG} {dce sz : Nat} {M : gM} {av : List Value}
    (hy : plainName y.cls = true) (hw : ws = Cond.code y cc maxL ret :: ws') (hn : (lg_sl av).length ≤ maxL)
    (body : ∀ (p : Program) (e : Env) (s : State) (m : MethodId) (below : List Frame) (meth : Method) (c : Code) (A : Nat → Prop) (ls : Array Slot), cX p s m meth c cc maxL ret ws y.cls av.toArray → meth.name = y.name → wd G A M s.heap → wK G s → wZ dce A s s.heap → (∀ q : Nat, s.heap.size ≤ q → A q) → va_S A s.heap s.heap [] → sz = s.heap.size → A = wA M sz → lv_has ls maxL (lv_args 0 av) →
      W p l e rm s m av.toArray below meth c s.heap [] 0 0 (MQ below (Qc A) av.toArray s mc ms A) (F0 m 0 ls [])) : Met l y ws rm (va_Pc av (wB G dce sz M)) (Qc (wA M sz)) mc ms (wA M sz) := by
  refine Met.ofW (cc := cc) (maxL := maxL) (ret := ret) hy hw ?_
  intro p e s m args below meth c s₁ B hml hv
  obtain ⟨rfl, rfl, hD, hK, hZ⟩ := hv
  rw [lg_entry_eq]
  exact body p e s m below meth c (wA M s.heap.size) _ ⟨B.exec, B.bytes, B.returns, atoms_spec (ws := ws) B.pre, findClass_of_methodNamed B.named, B.notSynchronized, hml⟩ (name_of_methodNamed B.named B.method).1 (hD.weaken (fun q e h => Or.inl ⟨e, h⟩)) hK hZ (fun q h => Or.inr h) va_S.rf rfl rfl (lv_entry av hn)
theorem xMet {l : Launch} {y : MethodName} {ws ws' : List Cond} {rm : Room} {Qc : (Nat → Prop) → Array Value → State → Outcome → State → Prop} {XC : (Nat → Prop) → String → State → State → Prop} {mc ms : Nat} {cc : ByteArray} {maxL : Nat} {ret : Option FieldType} {G : gG} {dce sz : Nat} {M : gM} {av : List Value}
    (hy : plainName y.cls = true) (hw : ws = Cond.code y cc maxL ret :: ws') (hn : (lg_sl av).length ≤ maxL)
    (body : ∀ (p : Program) (e : Env) (s : State) (m : MethodId) (below : List Frame) (meth : Method) (c : Code) (A : Nat → Prop) (ls : Array Slot), cX p s m meth c cc maxL ret ws y.cls av.toArray → (∀ x ∈ c.exceptionTable.toList, False) → meth.name = y.name → wd G A M s.heap → wK G s → wZ dce A s s.heap → (∀ q : Nat, s.heap.size ≤ q → A q) → va_S A s.heap s.heap [] → sz = s.heap.size → A = wA M sz → lv_has ls maxL (lv_args 0 av) →
      W p l e rm s m av.toArray below meth c s.heap [] 0 0 (vx_MQ below (Qc A) (XC A) av.toArray s mc ms A) (F0 m 0 ls [])) : vx_Met l y ws rm (va_Pc av (wB G dce sz M)) (Qc (wA M sz)) (XC (wA M sz)) mc ms (wA M sz) := by
  refine vx_ofW (cc := cc) (maxL := maxL) (ret := ret) hy hw ?_
  intro p e s m args below meth c s₁ B hml hno hv
  obtain ⟨rfl, rfl, hD, hK, hZ⟩ := hv
  rw [lg_entry_eq]
  exact body p e s m below meth c (wA M s.heap.size) _ ⟨B.exec, B.bytes, B.returns, atoms_spec (ws := ws) B.pre, findClass_of_methodNamed B.named, B.notSynchronized, hml⟩ hno (name_of_methodNamed B.named B.method).1 (hD.weaken (fun q e h => Or.inl ⟨e, h⟩)) hK hZ (fun q h => Or.inr h) va_S.rf rfl rfl (lv_entry av hn)
section ROWS
variable {p : Program} {l : Launch} {e : Env} {R : Room} {s : State} {m : MethodId} {args : Array Value} {below : List Frame} {meth : Method} {c : Code} {H : Heap} {locs : List Loc} {cells slots : Nat} {Q : State → Prop}
variable {cc : ByteArray} {pc nL : Nat} {ls : Array Slot} {rest : List Value} {G : gG} {A : Nat → Prop} {a : Nat} {M : gM} {H0 : Heap} {ret : Option FieldType} {Ts : List Cond} {own : String}
theorem m_get (X : cX p s m meth c cc nL ret Ts own args) {ref C : String} {T : u_T} {N ci index : Nat} (hin : ∀ w ∈ u_ws C T N, w ∈ Ts) (hK : wK G s) (hw : wd G A M H) {fs : List Value} (he : M a = some (.inr (ci, fs))) (hc : vwCl[ci]? = some (C, T, N)) (k : Nat) (hk : k < N) (hlink : Cond.fieldLink own index ref (T k).2.1 (T k).2.2.1 ∈ Ts) (href : (T k).1 = ref ∨ Cond.sameField ref (T k).1 (T k).2.1 (T k).2.2.1 ∈ Ts) {v : Value} (hv : fs[k]? = some v) (hdg : decode cc pc = .ok (.getfield index, 3))
    (kk : W p l e R s m args below meth c H locs cells slots Q (F0 m (pc + 3) ls (v :: rest))) : W p l e R s m args below meth c H locs cells slots Q (F0 m pc ls (.ref a :: rest)) := by
  obtain ⟨hx, hb, hr, hts, hown, hlk, hml⟩ := X
  obtain ⟨ws, hP, hD, hM⟩ := hw
  obtain ⟨k0, hk0⟩ := List.getElem?_of_mem ((hM a _).mp he)
  exact va_get hx hb hts hin hown hK hP k0 hk0 hc k hk (hts _ hlink) (fun x h => href.elim (fun e => by rw [← e]; exact h) (fun e => u_same (hts _ e) x h)) hv hdg kk
theorem m_put (X : cX p s m meth c cc nL ret Ts own args) {ref C : String} {T : u_T} {N ci index : Nat} (hin : ∀ w ∈ u_ws C T N, w ∈ Ts) {ty0 : Nat → FieldType} (hty : ∀ k, k < N → parseFieldDescriptor (T k).2.2.1 = some (ty0 k)) (hnm : ∀ a, a < N → ∀ b, b < N → a ≠ b → (T a).2.1 ≠ (T b).2.1) (hK : wK G s) (hw : wd G A M H) (hS : va_S A H0 H locs) {fs : List Value} (he : M a = some (.inr (ci, fs))) (hc : vwCl[ci]? = some (C, T, N)) (k : Nat) (hk : k < N) (hlink : Cond.fieldLink own index ref (T k).2.1 (T k).2.2.1 ∈ Ts) (href : (T k).1 = ref ∨ Cond.sameField ref (T k).1 (T k).2.1 (T k).2.2.1 ∈ Ts) (hfin : (T k).2.2.2 = false) {v : Value} (hn : narrow (ty0 k) v = v) (hfit : fits (ty0 k) v = true) (hl : k < fs.length) {fs1 : List Value} (hfs1 : fs.set k v = fs1)
    (hdg : decode cc pc = .ok (.putfield index, 3)) (kk : ∀ (M1 : gM) (H1 : Heap) (locs1 : List Loc), M1 = mu M a (.inr (ci, fs1)) → wd G A M1 H1 → va_S A H0 H1 locs1 → W p l e R s m args below meth c H1 locs1 cells slots Q (F0 m (pc + 3) ls rest)) : W p l e R s m args below meth c H locs cells slots Q (F0 m pc ls (v :: .ref a :: rest)) := by
  obtain ⟨hx, hb, hr, hts, hown, hlk, hml⟩ := X
  obtain ⟨ws, hP, hD, hM⟩ := hw
  obtain ⟨k0, hk0⟩ := List.getElem?_of_mem ((hM a _).mp he)
  subst hfs1
  exact va_put hx hb hts hin ty0 hty hnm hown hK hP hD hS k0 hk0 hc k hk (hts _ hlink) (fun x h => href.elim (fun e => by rw [← e]; exact h) (fun e => u_same (hts _ e) x h)) hfin (hty k hk) hn hfit hl hdg (fun H1 locs1 hP1 hD1 hS1 => kk _ H1 locs1 rfl ⟨_, hP1, hD1, wd_set hD hM hk0⟩ hS1)
theorem m_putF (X : cX p s m meth c cc nL ret Ts own args) {ref C : String} {T : u_T} {N ci index : Nat} (hin : ∀ w ∈ u_ws C T N, w ∈ Ts) {ty0 : Nat → FieldType} (hty : ∀ k, k < N → parseFieldDescriptor (T k).2.2.1 = some (ty0 k)) (hnm : ∀ a, a < N → ∀ b, b < N → a ≠ b → (T a).2.1 ≠ (T b).2.1) (hK : wK G s) (hw : wd G A M H) (hS : va_S A H0 H locs) {fs : List Value} (he : M a = some (.inr (ci, fs))) (hc : vwCl[ci]? = some (C, T, N)) (k : Nat) (hk : k < N) (hlink : Cond.fieldLink own index ref (T k).2.1 (T k).2.2.1 ∈ Ts) (href : (T k).1 = ref ∨ Cond.sameField ref (T k).1 (T k).2.1 (T k).2.2.1 ∈ Ts) (hfin : (T k).2.2.2 = true) (hin2 : meth.name = "<init>") (hdecl : (T k).1 = own) {v : Value} (hn : narrow (ty0 k) v = v) (hfit : fits (ty0 k) v = true) (hl : k < fs.length) {fs1 : List Value} (hfs1 : fs.set k v = fs1)
    (hdg : decode cc pc = .ok (.putfield index, 3)) (kk : ∀ (M1 : gM) (H1 : Heap) (locs1 : List Loc), M1 = mu M a (.inr (ci, fs1)) → wd G A M1 H1 → va_S A H0 H1 locs1 → W p l e R s m args below meth c H1 locs1 cells slots Q (F0 m (pc + 3) ls rest)) : W p l e R s m args below meth c H locs cells slots Q (F0 m pc ls (v :: .ref a :: rest)) := by
  obtain ⟨hx, hb, hr, hts, hown, hlk, hml⟩ := X
  obtain ⟨ws, hP, hD, hM⟩ := hw
  obtain ⟨k0, hk0⟩ := List.getElem?_of_mem ((hM a _).mp he)
  subst hfs1
  exact va_putF hx hb hts hin ty0 hty hnm hown hK hP hD hS k0 hk0 hc k hk (hts _ hlink) (fun x h => href.elim (fun e => by rw [← e]; exact h) (fun e => u_same (hts _ e) x h)) hfin hin2 hdecl (hty k hk) hn hfit hl hdg (fun H1 locs1 hP1 hD1 hS1 => kk _ H1 locs1 rfl ⟨_, hP1, hD1, wd_set hD hM hk0⟩ hS1)
theorem m_new (X : cX p s m meth c cc nL ret Ts own args) {C : String} {T : u_T} {N ci index : Nat} (hin : ∀ w ∈ u_ws C T N, w ∈ Ts) {ty : Nat → FieldType} (hty : ∀ k, k < N → parseFieldDescriptor (T k).2.2.1 = some (ty k)) (hcl : Cond.classLink own index C ∈ Ts) (hinst : Cond.instantiable C N ∈ Ts) (hini : Cond.initialized C ∈ Ts)
    (hK : wK G s) (hw : wd G A M H) (hS : va_S A H0 H locs) (hA : ∀ q, H0.size ≤ q → A q) (hc : vwCl[ci]? = some (C, T, N)) {fs : List Value} (hfs : (List.range N).map (fun j => defaultValue (ty j)) = fs) (hcells : cells + 1 ≤ R.cells) (hslots : slots + N ≤ R.slots) (hdg : decode cc pc = .ok (.new index, 3))
    (kk : ∀ (q : Nat) (M1 : gM) (H1 : Heap), M q = none → M1 = mu M q (.inr (ci, fs)) → wd G A M1 H1 → va_S A H0 H1 locs →
      W p l e R s m args below meth c H1 locs (cells + 1) (slots + N) Q (F0 m (pc + 3) ls (.ref q :: rest))) : W p l e R s m args below meth c H locs cells slots Q (F0 m pc ls rest) := by
  obtain ⟨hx, hb, hr, hts, hown, hlk, hml⟩ := X
  obtain ⟨ws, hP, hD, hM⟩ := hw
  refine va_new hx hb hts hin ty hty hown (hts _ hcl) (hts _ hinst) (hts _ hini) hK hP hD hS hA hc (fs := fs) (fun j hj => ?_) hcells hslots hdg (fun q H1 hP1 hD1 hS1 => ?_)
  · subst hfs
    simp [vp_V, List.getD, hj]
  · obtain ⟨h1, h2⟩ := wd_push hD1 hM
    exact kk q _ H1 h1 rfl ⟨_, hP1, hD1, h2⟩ hS1
theorem m_iald (X : cX p s m meth c cc nL ret Ts own args) (hK : wK G s) (hw : wd G A M H) {n : Nat} {f : Nat → Int32} (he : M a = some (.inl (G.2 0, n, .inl f))) {i : Int32} (hin : vp_in i n) (hdg : decode cc pc = .ok (.iaload, 1))
    (kk : W p l e R s m args below meth c H locs cells slots Q (F0 m (pc + 1) ls (.int (f i.toNatClampNeg) :: rest))) : W p l e R s m args below meth c H locs cells slots Q (F0 m pc ls (.int i :: .ref a :: rest)) := by
  obtain ⟨ws, hP, hD, hM⟩ := hw
  obtain ⟨k0, hk0⟩ := List.getElem?_of_mem ((hM a _).mp he)
  exact va_iald X.1 X.2.1 hK hP k0 0 hk0 rfl hin hdg kk
theorem m_zald (X : cX p s m meth c cc nL ret Ts own args) (hK : wK G s) (hw : wd G A M H) {n : Nat} {f : Nat → Int32} (he : M a = some (.inl (G.2 1, n, .inl f))) {i : Int32} (hin : vp_in i n) (hdg : decode cc pc = .ok (.baload, 1))
    (kk : W p l e R s m args below meth c H locs cells slots Q (F0 m (pc + 1) ls (.int (f i.toNatClampNeg) :: rest))) : W p l e R s m args below meth c H locs cells slots Q (F0 m pc ls (.int i :: .ref a :: rest)) := by
  obtain ⟨ws, hP, hD, hM⟩ := hw
  obtain ⟨k0, hk0⟩ := List.getElem?_of_mem ((hM a _).mp he)
  exact va_zald X.1 X.2.1 hK hP k0 1 hk0 rfl hin hdg kk
theorem m_lald (X : cX p s m meth c cc nL ret Ts own args) (hK : wK G s) (hw : wd G A M H) {n : Nat} {f : Nat → Int64} (he : M a = some (.inl (G.2 2, n, .inr (.inl f)))) {i : Int32} (hin : vp_in i n) (hdg : decode cc pc = .ok (.laload, 1))
    (kk : W p l e R s m args below meth c H locs cells slots Q (F0 m (pc + 1) ls (.long (f i.toNatClampNeg) :: rest))) : W p l e R s m args below meth c H locs cells slots Q (F0 m pc ls (.int i :: .ref a :: rest)) := by
  obtain ⟨ws, hP, hD, hM⟩ := hw
  obtain ⟨k0, hk0⟩ := List.getElem?_of_mem ((hM a _).mp he)
  exact va_lald X.1 X.2.1 hK hP k0 2 hk0 rfl hin hdg kk
theorem m_alen (X : cX p s m meth c cc nL ret Ts own args) (hK : wK G s) (hw : wd G A M H) {cA : ClassId} {x : vp_A} (he : M a = some (.inl (cA, x))) (t0 : Nat) {ty : FieldType} (ht : (tyL G.2)[t0]? = some (cA, ty)) (hdg : decode cc pc = .ok (.arraylength, 1))
    (kk : W p l e R s m args below meth c H locs cells slots Q (F0 m (pc + 1) ls (.int (nI x.1) :: rest))) : W p l e R s m args below meth c H locs cells slots Q (F0 m pc ls (.ref a :: rest)) := by
  obtain ⟨ws, hP, hD, hM⟩ := hw
  obtain ⟨k0, hk0⟩ := List.getElem?_of_mem ((hM a _).mp he)
  exact va_alen X.1 X.2.1 hK hP k0 t0 hk0 ht rfl hdg kk
end ROWS

def bI (b : Bool) : Int32 := if b then 1 else 0
theorem bI_nar (b : Bool) : narrow .boolean (.int (bI b)) = .int (bI b) := by cases b <;> decide
theorem bI_fit (b : Bool) : fits .boolean (.int (bI b)) = true := by cases b <;> decide
theorem bI_vp (b : Bool) : vp_nar .boolean (bI b) = bI b := by cases b <;> decide
theorem bI_0 (b : Bool) : bI b = 0 ↔ b = false := by cases b <;> decide
theorem bI_1 (b : Bool) : bI b = 1 ↔ b = true := by cases b <;> decide
/-- an object of a session, a row -/
abbrev vE : Type := Bool × Bool × Bool × Int32 × Int32 × Int32 × Int32 × Int32
abbrev vR : Type := Bool × Int32 × Int32 × Int32
def eE : vE → va_E := fun (b1, b2, b3, nm, rf, sn, sr, sv) => .inr (1, [.int (bI b1), .int (bI b2), .int (bI b3), .int nm, .int rf, .int sn, .int sr, .int sv])
def eR : vR → va_E := fun (b, nm, rf, ve) => .inr (4, [.int (bI b), .int nm, .int rf, .int ve])
def fLive : vE → Bool := fun (b1, b2, _) => b1 && !b2
def fRefs : vE → Int32 → Bool := fun (b1, b2, _, _, rf, _) t => (b1 && !b2) && decide (rf = t)
def fNew : vE → Bool := fun (b1, _, b3, _) => b1 && !b3
def fChg : vE → Bool := fun (_, _, b3, nm, rf, sn, sr, _) => b3 && (decide (nm ≠ sn) || decide (rf ≠ sr))
def fClash : vE → vR → Bool := fun (b1, b2, b3, nm, rf, sn, sr, sv) (b, _, _, ve) => (fChg (b1, b2, b3, nm, rf, sn, sr, sv) || b2) && (!b || decide (ve ≠ sv))
def fMake : vE → Int32 → Int32 → vE := fun (_, b2, b3, _, _, sn, sr, sv) nm rf => (true, b2, b3, nm, rf, sn, sr, sv)
def fSnap : vE → vR → vE := fun (b1, b2, _, nm, rf, _, _, _) (_, rn, rr, rv) => (b1, b2, true, nm, rf, rn, rr, rv)
def fLoad : vE → vR → vE := fun v r => fSnap (fMake v r.2.1 r.2.2.1) r
def fForget : vE → vE := fun (_, _, _, nm, rf, sn, sr, sv) => (false, false, false, nm, rf, sn, sr, sv)
def fStrike : vE → vE := fun (b1, b2, b3, nm, rf, sn, sr, sv) => if b3 then (b1, true, b3, nm, rf, sn, sr, sv) else (false, false, false, nm, rf, sn, sr, sv)
def fIns : vR → Int32 → Int32 → vR := fun _ nm rf => (true, nm, rf, 0)
def fUpd : vR → Int32 → Int32 → vR := fun (b, _, _, ve) nm rf => (b, nm, rf, ve + 1)
end
section
section ROWS2
variable {p : Program} {l : Launch} {e : Env} {R : Room} {s : State} {m : MethodId} {args : Array Value} {below : List Frame} {meth : Method} {c : Code} {H : Heap} {locs : List Loc} {cells slots : Nat} {Q : State → Prop}
variable {cc : ByteArray} {pc nL : Nat} {ls : Array Slot} {rest st0 : List Value} {G : gG} {A : Nat → Prop} {a : Nat} {M : gM} {H0 : Heap} {ret : Option FieldType} {Ts : List Cond} {own : String}
theorem m_iast (X : cX p s m meth c cc nL ret Ts own args) (hK : wK G s) (hw : wd G A M H) (hS : va_S A H0 H locs) {n : Nat} {f : Nat → Int32} (he : M a = some (.inl (G.2 0, n, .inl f))) {i x : Int32} (hin : vp_in i n) (hdg : decode cc pc = .ok (.iastore, 1))
    (kk : ∀ (M1 : gM) (H1 : Heap) (locs1 : List Loc), M1 = mu M a (.inl (G.2 0, n, .inl (upd f i.toNatClampNeg x))) → wd G A M1 H1 → va_S A H0 H1 locs1 → W p l e R s m args below meth c H1 locs1 cells slots Q (F0 m (pc + 1) ls rest)) : W p l e R s m args below meth c H locs cells slots Q (F0 m pc ls (.int x :: .int i :: .ref a :: rest)) := by
  obtain ⟨ws, hP, hD, hM⟩ := hw
  obtain ⟨k0, hk0⟩ := List.getElem?_of_mem ((hM a _).mp he)
  exact va_iast X.1 X.2.1 hK hP hD hS k0 0 hk0 rfl hin hdg (fun H1 locs1 hP1 hD1 hS1 => kk _ H1 locs1 rfl ⟨_, hP1, hD1, wd_set hD hM hk0⟩ hS1)
theorem m_zast (X : cX p s m meth c cc nL ret Ts own args) (hK : wK G s) (hw : wd G A M H) (hS : va_S A H0 H locs) {n : Nat} {f : Nat → Int32} (he : M a = some (.inl (G.2 1, n, .inl f))) {i x : Int32} (hx : vp_nar .boolean x = x) (hin : vp_in i n) (hdg : decode cc pc = .ok (.bastore, 1))
    (kk : ∀ (M1 : gM) (H1 : Heap) (locs1 : List Loc), M1 = mu M a (.inl (G.2 1, n, .inl (upd f i.toNatClampNeg x))) → wd G A M1 H1 → va_S A H0 H1 locs1 → W p l e R s m args below meth c H1 locs1 cells slots Q (F0 m (pc + 1) ls rest)) : W p l e R s m args below meth c H locs cells slots Q (F0 m pc ls (.int x :: .int i :: .ref a :: rest)) := by
  obtain ⟨ws, hP, hD, hM⟩ := hw
  obtain ⟨k0, hk0⟩ := List.getElem?_of_mem ((hM a _).mp he)
  refine va_zast X.1 X.2.1 hK hP hD hS k0 1 hk0 rfl hin hdg (fun H1 locs1 hP1 hD1 hS1 => ?_)
  rw [hx] at hP1 hD1
  exact kk _ H1 locs1 rfl ⟨_, hP1, hD1, wd_set hD hM hk0⟩ hS1
theorem m_last (X : cX p s m meth c cc nL ret Ts own args) (hK : wK G s) (hw : wd G A M H) (hS : va_S A H0 H locs) {n : Nat} {f : Nat → Int64} (he : M a = some (.inl (G.2 2, n, .inr (.inl f)))) {i : Int32} {x : Int64} (hin : vp_in i n) (hdg : decode cc pc = .ok (.lastore, 1))
    (kk : ∀ (M1 : gM) (H1 : Heap) (locs1 : List Loc), M1 = mu M a (.inl (G.2 2, n, .inr (.inl (vp_updL f i.toNatClampNeg x)))) → wd G A M1 H1 → va_S A H0 H1 locs1 → W p l e R s m args below meth c H1 locs1 cells slots Q (F0 m (pc + 1) ls rest)) : W p l e R s m args below meth c H locs cells slots Q (F0 m pc ls (.long x :: .int i :: .ref a :: rest)) := by
  obtain ⟨ws, hP, hD, hM⟩ := hw
  obtain ⟨k0, hk0⟩ := List.getElem?_of_mem ((hM a _).mp he)
  exact va_last X.1 X.2.1 hK hP hD hS k0 2 hk0 rfl hin hdg (fun H1 locs1 hP1 hD1 hS1 => kk _ H1 locs1 rfl ⟨_, hP1, hD1, wd_set hD hM hk0⟩ hS1)
theorem m_aald (X : cX p s m meth c cc nL ret Ts own args) (hK : wK G s) (hw : wd G A M H) (t0 : Nat) {cA : ClassId} {C : String} {n : Nat} {f : Nat → Option Nat} (he : M a = some (.inl (cA, n, .inr (.inr (.inr (.inr f)))))) (ht : (tyL G.2)[t0]? = some (cA, .object C)) {i : Int32} {v : Nat} (hv : f i.toNatClampNeg = some v) (hin : vp_in i n) (hdg : decode cc pc = .ok (.aaload, 1))
    (kk : W p l e R s m args below meth c H locs cells slots Q (F0 m (pc + 1) ls (.ref v :: rest))) : W p l e R s m args below meth c H locs cells slots Q (F0 m pc ls (.int i :: .ref a :: rest)) := by
  obtain ⟨ws, hP, hD, hM⟩ := hw
  obtain ⟨k0, hk0⟩ := List.getElem?_of_mem ((hM a _).mp he)
  refine va_aldq X.1 X.2.1 hK hP k0 t0 hk0 ht hin hdg ?_
  rw [hv]
  exact kk

theorem m_newa_int (X : cX p s m meth c cc nL ret Ts own args) (harr : Cond.arrayClass .int ∈ Ts) (hK : wK G s) (hw : wd G A M H) (hS : va_S A H0 H locs) (hA : ∀ q, H0.size ≤ q → A q) {n : Int32} {N' : Nat} (hn : ¬ n < 0) (hN : n.toNatClampNeg = N') (hbytes : N' * componentBytes .int ≤ 536870912) (hcells : cells + 1 ≤ R.cells) (hslots : slots + N' ≤ R.slots) (hdg : decode cc pc = .ok (.newarray .int, 2))
    (kk : ∀ (q : Nat) (M1 : gM) (H1 : Heap), M q = none → M1 = mu M q (.inl (G.2 0, N', .inl (fun _ => 0))) → wd G A M1 H1 → va_S A H0 H1 locs → W p l e R s m args below meth c H1 locs (cells + 1) (slots + N') Q (F0 m (pc + 2) ls (.ref q :: rest))) : W p l e R s m args below meth c H locs cells slots Q (F0 m pc ls (.int n :: rest)) := by
  obtain ⟨ws, hP, hD, hM⟩ := hw
  refine va_newa X.1 X.2.1 (atype := .int) (X.2.2.2.1 _ harr) rfl hK hP hD hS hA (a0 := (N', .inl (fun _ => 0))) (fun cA => rfl) hn hN hbytes hcells hslots hdg (fun q cA H1 hK1 hP1 hD1 hS1 => ?_)
  have h1 : s.vm.findClass ("[" ++ (.int : FieldType).toString) = some cA := (hK1.2 5 (cA, .int) rfl).2
  have h2 : s.vm.findClass ("[" ++ (.int : FieldType).toString) = some (G.2 0) := (hK.2 0 (G.2 0, .int) rfl).2
  have h3 : cA = G.2 0 := Option.some.inj (h1.symm.trans h2)
  subst h3
  obtain ⟨h4, h5⟩ := wd_push hD1 hM
  exact kk q _ H1 h4 rfl ⟨_, hP1, hD1, h5⟩ hS1
theorem m_newa_bool (X : cX p s m meth c cc nL ret Ts own args) (harr : Cond.arrayClass .boolean ∈ Ts) (hK : wK G s) (hw : wd G A M H) (hS : va_S A H0 H locs) (hA : ∀ q, H0.size ≤ q → A q) {n : Int32} {N' : Nat} (hn : ¬ n < 0) (hN : n.toNatClampNeg = N') (hbytes : N' * componentBytes .boolean ≤ 536870912) (hcells : cells + 1 ≤ R.cells) (hslots : slots + N' ≤ R.slots) (hdg : decode cc pc = .ok (.newarray .boolean, 2))
    (kk : ∀ (q : Nat) (M1 : gM) (H1 : Heap), M q = none → M1 = mu M q (.inl (G.2 1, N', .inl (fun _ => 0))) → wd G A M1 H1 → va_S A H0 H1 locs → W p l e R s m args below meth c H1 locs (cells + 1) (slots + N') Q (F0 m (pc + 2) ls (.ref q :: rest))) : W p l e R s m args below meth c H locs cells slots Q (F0 m pc ls (.int n :: rest)) := by
  obtain ⟨ws, hP, hD, hM⟩ := hw
  refine va_newa X.1 X.2.1 (atype := .boolean) (X.2.2.2.1 _ harr) rfl hK hP hD hS hA (a0 := (N', .inl (fun _ => 0))) (fun cA => rfl) hn hN hbytes hcells hslots hdg (fun q cA H1 hK1 hP1 hD1 hS1 => ?_)
  have h1 : s.vm.findClass ("[" ++ (.boolean : FieldType).toString) = some cA := (hK1.2 5 (cA, .boolean) rfl).2
  have h2 : s.vm.findClass ("[" ++ (.boolean : FieldType).toString) = some (G.2 1) := (hK.2 1 (G.2 1, .boolean) rfl).2
  have h3 : cA = G.2 1 := Option.some.inj (h1.symm.trans h2)
  subst h3
  obtain ⟨h4, h5⟩ := wd_push hD1 hM
  exact kk q _ H1 h4 rfl ⟨_, hP1, hD1, h5⟩ hS1
theorem m_newa_long (X : cX p s m meth c cc nL ret Ts own args) (harr : Cond.arrayClass .long ∈ Ts) (hK : wK G s) (hw : wd G A M H) (hS : va_S A H0 H locs) (hA : ∀ q, H0.size ≤ q → A q) {n : Int32} {N' : Nat} (hn : ¬ n < 0) (hN : n.toNatClampNeg = N') (hbytes : N' * componentBytes .long ≤ 536870912) (hcells : cells + 1 ≤ R.cells) (hslots : slots + N' ≤ R.slots) (hdg : decode cc pc = .ok (.newarray .long, 2))
    (kk : ∀ (q : Nat) (M1 : gM) (H1 : Heap), M q = none → M1 = mu M q (.inl (G.2 2, N', .inr (.inl (fun _ => 0)))) → wd G A M1 H1 → va_S A H0 H1 locs → W p l e R s m args below meth c H1 locs (cells + 1) (slots + N') Q (F0 m (pc + 2) ls (.ref q :: rest))) : W p l e R s m args below meth c H locs cells slots Q (F0 m pc ls (.int n :: rest)) := by
  obtain ⟨ws, hP, hD, hM⟩ := hw
  refine va_newa X.1 X.2.1 (atype := .long) (X.2.2.2.1 _ harr) rfl hK hP hD hS hA (a0 := (N', .inr (.inl (fun _ => 0)))) (fun cA => rfl) hn hN hbytes hcells hslots hdg (fun q cA H1 hK1 hP1 hD1 hS1 => ?_)
  have h1 : s.vm.findClass ("[" ++ (.long : FieldType).toString) = some cA := (hK1.2 5 (cA, .long) rfl).2
  have h2 : s.vm.findClass ("[" ++ (.long : FieldType).toString) = some (G.2 2) := (hK.2 2 (G.2 2, .long) rfl).2
  have h3 : cA = G.2 2 := Option.some.inj (h1.symm.trans h2)
  subst h3
  obtain ⟨h4, h5⟩ := wd_push hD1 hM
  exact kk q _ H1 h4 rfl ⟨_, hP1, hD1, h5⟩ hS1
theorem m_newq (X : cX p s m meth c cc nL ret Ts own args) {C : String} {index : Nat} (hcl : Cond.classLink own index C ∈ Ts) (hover : va_AO C s) (t0 : Nat) {cA0 : ClassId} (ht : (tyL G.2)[t0]? = some (cA0, .object C)) (hK : wK G s) (hw : wd G A M H) (hS : va_S A H0 H locs) (hA : ∀ q, H0.size ≤ q → A q) {n : Int32} {N' : Nat} (hn : ¬ n < 0) (hN : n.toNatClampNeg = N') (hbytes : N' * 4 ≤ 536870912) (hcells : cells + 1 ≤ R.cells) (hslots : slots + N' ≤ R.slots) (hdg : decode cc pc = .ok (.anewarray index, 3))
    (kk : ∀ (q : Nat) (M1 : gM) (H1 : Heap), M q = none → M1 = mu M q (.inl (cA0, N', .inr (.inr (.inr (.inr (fun _ => none)))))) → wd G A M1 H1 → va_S A H0 H1 locs → W p l e R s m args below meth c H1 locs (cells + 1) (slots + N') Q (F0 m (pc + 3) ls (.ref q :: rest))) : W p l e R s m args below meth c H locs cells slots Q (F0 m pc ls (.int n :: rest)) := by
  obtain ⟨ws, hP, hD, hM⟩ := hw
  refine va_newq X.1 X.2.1 X.2.2.2.2.1 (X.2.2.2.1 _ hcl) hover hK hP hD hS hA hn hN hbytes hcells hslots hdg (fun q cA H1 hK1 hP1 hD1 hS1 => ?_)
  obtain ⟨kA1, comp1, -, -, -, h1⟩ := (hK1.2 5 (cA, .object C) rfl).2
  obtain ⟨kA2, comp2, -, -, -, h2⟩ := (hK.2 t0 (cA0, .object C) ht).2
  have h3 : cA = cA0 := Option.some.inj (h1.symm.trans h2)
  subst h3
  obtain ⟨h4, h5⟩ := wd_push hD1 hM
  exact kk q _ H1 h4 rfl ⟨_, hP1, hD1, h5⟩ hS1
abbrev QI (G : gG) (post : Int32 → gM → Prop) (A : Nat → Prop) : Array Value → State → Outcome → State → Prop := va_Qi post (fun M' t => wd G A M' t.heap ∧ wK G t) A
abbrev QV (G : gG) (post : gM → Prop) (A : Nat → Prop) : Array Value → State → Outcome → State → Prop := va_Qv post (fun M' t => wd G A M' t.heap ∧ wK G t) A
abbrev QR (G : gG) (post : Nat → gM → Prop) (A : Nat → Prop) : Array Value → State → Outcome → State → Prop := va_Qr (fun _ : gM => True) (fun M' a t => post a M' ∧ wd G A M' t.heap ∧ wK G t) A
abbrev QX (G : gG) (px : String → gM → Prop) (A : Nat → Prop) : String → State → State → Prop := vx_X (S := gM) (fun _ => True) (fun E M' t => px E M' ∧ wd G A M' t.heap ∧ wK G t) A
abbrev mI (l : Launch) (y : MethodName) (ws : List Cond) (rm : Room) (G : gG) (dce sz : Nat) (M : gM) (av : List Value) (post : Int32 → gM → Prop) (mc ms : Nat) : Prop := Met l y ws rm (va_Pc av (wB G dce sz M)) (QI G post (wA M sz)) mc ms (wA M sz)
abbrev mV (l : Launch) (y : MethodName) (ws : List Cond) (rm : Room) (G : gG) (dce sz : Nat) (M : gM) (av : List Value) (post : gM → Prop) (mc ms : Nat) : Prop := Met l y ws rm (va_Pc av (wB G dce sz M)) (QV G post (wA M sz)) mc ms (wA M sz)
abbrev mR (l : Launch) (y : MethodName) (ws : List Cond) (rm : Room) (G : gG) (dce sz : Nat) (M : gM) (av : List Value) (post : Nat → gM → Prop) (mc ms : Nat) : Prop := Met l y ws rm (va_Pc av (wB G dce sz M)) (QR G post (wA M sz)) mc ms (wA M sz)
abbrev xI (l : Launch) (y : MethodName) (ws : List Cond) (rm : Room) (G : gG) (dce sz : Nat) (M : gM) (av : List Value) (post : Int32 → gM → Prop) (px : String → gM → Prop) (mc ms : Nat) : Prop := vx_Met l y ws rm (va_Pc av (wB G dce sz M)) (QI G post (wA M sz)) (QX G px (wA M sz)) mc ms (wA M sz)
abbrev xV (l : Launch) (y : MethodName) (ws : List Cond) (rm : Room) (G : gG) (dce sz : Nat) (M : gM) (av : List Value) (post : gM → Prop) (px : String → gM → Prop) (mc ms : Nat) : Prop := vx_Met l y ws rm (va_Pc av (wB G dce sz M)) (QV G post (wA M sz)) (QX G px (wA M sz)) mc ms (wA M sz)
abbrev xR (l : Launch) (y : MethodName) (ws : List Cond) (rm : Room) (G : gG) (dce sz : Nat) (M : gM) (av : List Value) (post : Nat → gM → Prop) (px : String → gM → Prop) (mc ms : Nat) : Prop := vx_Met l y ws rm (va_Pc av (wB G dce sz M)) (QR G post (wA M sz)) (QX G px (wA M sz)) mc ms (wA M sz)
theorem wB_at {U : State} {dce : Nat} (hK : wK G s) (hw : wd G A M H) (hZ : wZ dce A s s.heap) (hS : va_S A s.heap H locs) (hA : ∀ q : Nat, s.heap.size ≤ q → A q) (hU : U.heap = H) (hW : s.WarmedH U.vm) : wB G dce H.size M U := by
  subst hU
  refine ⟨rfl, hw.weaken (fun _ _ _ => trivial), va_K.moved hW.alike hK, ?_⟩
  exact (((hZ.kept (fun a h1 h2 => hS.2.1 a h1 h2)).narrow (hw.free hS hA)).warm hW)
theorem m_iret (X : cX p s m meth c cc nL (some .int) Ts own args) {post : Int32 → gM → Prop} {v : Int32} {mc ms : Nat} (hK : wK G s) (hw : wd G A M H) (hS : va_S A s.heap H locs) (hp : post v M) (hc : cells ≤ mc) (hs : slots ≤ ms) (hdg : decode cc pc = .ok (.ireturn, 1)) : W p l e R s m args below meth c H locs cells slots (MQ below (QI G post A) args s mc ms A) (F0 m pc ls [.int v]) := by
  refine W.widen (k := mc) (n := ms) hc hs ?_
  exact W.iret (v := v) X.1 X.2.1 X.2.2.1 (fun t ht hW => ⟨⟨v, M, rfl, hp, by rw [ht]; exact hw, va_K.moved hW.alike hK⟩, hS.F ht⟩) hS.2.2 hdg X.2.2.2.2.2.1
theorem m_zret (X : cX p s m meth c cc nL (some .boolean) Ts own args) {post : Int32 → gM → Prop} {v : Int32} {mc ms : Nat} (hn : narrow .boolean (.int v) = .int v) (hK : wK G s) (hw : wd G A M H) (hS : va_S A s.heap H locs) (hp : post v M) (hc : cells ≤ mc) (hs : slots ≤ ms) (hdg : decode cc pc = .ok (.ireturn, 1)) : W p l e R s m args below meth c H locs cells slots (MQ below (QI G post A) args s mc ms A) (F0 m pc ls [.int v]) := by
  refine W.widen (k := mc) (n := ms) hc hs ?_
  exact W.zret (v := v) X.1 X.2.1 X.2.2.1 hn (fun t ht hW => ⟨⟨v, M, rfl, hp, by rw [ht]; exact hw, va_K.moved hW.alike hK⟩, hS.F ht⟩) hS.2.2 hdg X.2.2.2.2.2.1
theorem m_vret (X : cX p s m meth c cc nL none Ts own args) {post : gM → Prop} {mc ms : Nat} (hK : wK G s) (hw : wd G A M H) (hS : va_S A s.heap H locs) (hp : post M) (hc : cells ≤ mc) (hs : slots ≤ ms) (hdg : decode cc pc = .ok (.return_, 1)) : W p l e R s m args below meth c H locs cells slots (MQ below (QV G post A) args s mc ms A) (F0 m pc ls []) := by
  refine W.widen (k := mc) (n := ms) hc hs ?_
  exact W.vret X.1 X.2.1 X.2.2.1 (fun t ht hW => ⟨⟨M, rfl, hp, by rw [ht]; exact hw, va_K.moved hW.alike hK⟩, hS.F ht⟩) hS.2.2 hdg X.2.2.2.2.2.1
theorem m_aret {rt : FieldType} (X : cX p s m meth c cc nL (some rt) Ts own args) (hrt : (∃ n, rt = .object n) ∨ ∃ t, rt = .array t) {post : Nat → gM → Prop} {v : Nat} {mc ms : Nat} (hK : wK G s) (hw : wd G A M H) (hS : va_S A s.heap H locs) (hp : post v M) (hc : cells ≤ mc) (hs : slots ≤ ms) (hdg : decode cc pc = .ok (.areturn, 1)) : W p l e R s m args below meth c H locs cells slots (MQ below (QR G post A) args s mc ms A) (F0 m pc ls [.ref v]) := by
  refine W.widen (k := mc) (n := ms) hc hs ?_
  exact W.aret X.1 X.2.1 X.2.2.1 hrt (Or.inr ⟨v, rfl⟩) (fun t ht hW => ⟨⟨M, v, rfl, trivial, hp, by rw [ht]; exact hw, va_K.moved hW.alike hK⟩, hS.F ht⟩) hS.2.2 hdg X.2.2.2.2.2.1
theorem m_callVi (X : cX p s m meth c cc nL ret Ts own args) {dce : Nat} {y : MethodName} {bytes : ByteArray} {maxL mc ms n index : Nat} {ret9 : Option FieldType} {ws : List Cond} {rm : Room} {As : List Value} {b ci N9 : Nat} {C : String} {T9 : u_T} {fs9 : List Value} (hc : vwCl[ci]? = some (C, T9, N9)) (he : M b = some (.inr (ci, fs9))) {post : Int32 → gM → Prop} (hK : wK G s) (hw : wd G A M H) (hZ : wZ dce A s s.heap) (hS : va_S A s.heap H locs) (hA : ∀ q : Nat, s.heap.size ≤ q → A q) (hM : Met l y ws rm (va_Pc (.ref b :: As) (wB G dce H.size M)) (QI G post (wA M H.size)) mc ms (wA M H.size)) (cw : CallW R s args own C index y bytes maxL ret9 ws rm mc ms n) (hn : As.length = n) (hsz : ls.size = nL) (hst : st0 = As.reverse ++ .ref b :: rest) (hW9 : (rest.map fun v => v.category).sum ≤ 8) (hdg : decode cc pc = .ok (.invokevirtual index, 3)) (hcl : cells + mc ≤ R.cells) (hsl : slots + ms ≤ R.slots)
    (kk : ∀ (r : Int32) (M1 : gM) (H1 : Heap) (locs1 : List Loc), post r M1 → wd G A M1 H1 → va_S A s.heap H1 locs1 → H.size ≤ H1.size → (∀ q : Nat, q < H.size → ¬ wA M H.size q → H1[q]? = H[q]?) → W p l e R s m args below meth c H1 locs1 (cells + mc) (slots + ms) Q (F0 m (pc + 3) ls (.int r :: rest))) : W p l e R s m args below meth c H locs cells slots Q (F0 m pc ls st0) := by
  obtain ⟨ws0, hP, hD, hM0⟩ := id hw
  obtain ⟨k0, hk0⟩ := List.getElem?_of_mem ((hM0 b _).mp he)
  have hf9 := hw.free hS hA
  exact va_calli (va_runV (As := As) (rest := rest) ⟨X.1, X.2.1, X.2.2.2.2.2.2, X.2.2.2.2.1, X.2.2.2.1⟩ hM cw ⟨wB_blind, va_recv hK hP hc hk0, fun U hU hW => ⟨rfl, wB_at hK hw hZ hS hA hU hW⟩⟩ rfl hn hsz hst (by simpa [JFrame.monitorRoom] using hW9) hdg ⟨hcl, hsl⟩) hS (fun q _ h => hf9 q h) hf9 (fun r M1 t H1 locs1 ht hvm hp hB hz hk hS1 => kk r M1 H1 locs1 hp (by have h9 := hB.1; rw [ht] at h9; exact h9.weaken (fun q e hq => hf9 q (h9.in hq))) hS1 hz hk)
theorem m_callSi (X : cX p s m meth c cc nL ret Ts own args) {dce : Nat} {y : MethodName} {bytes : ByteArray} {maxL mc ms n index : Nat} {ret9 : Option FieldType} {ws : List Cond} {rm : Room} {As : List Value}  {post : Int32 → gM → Prop} (hK : wK G s) (hw : wd G A M H) (hZ : wZ dce A s s.heap) (hS : va_S A s.heap H locs) (hA : ∀ q : Nat, s.heap.size ≤ q → A q) (hM : Met l y ws rm (va_Pc (As) (wB G dce H.size M)) (QI G post (wA M H.size)) mc ms (wA M H.size)) (cw : CallB R s args own index y bytes maxL ret9 ws rm mc ms n ∧ (Cond.static y).before args s = true) (hn : As.length = n) (hsz : ls.size = nL) (hst : st0 = As.reverse ++ rest) (hW9 : (rest.map fun v => v.category).sum ≤ 8) (hdg : decode cc pc = .ok (.invokestatic index, 3)) (hcl : cells + mc ≤ R.cells) (hsl : slots + ms ≤ R.slots)
    (kk : ∀ (r : Int32) (M1 : gM) (H1 : Heap) (locs1 : List Loc), post r M1 → wd G A M1 H1 → va_S A s.heap H1 locs1 → H.size ≤ H1.size → (∀ q : Nat, q < H.size → ¬ wA M H.size q → H1[q]? = H[q]?) → W p l e R s m args below meth c H1 locs1 (cells + mc) (slots + ms) Q (F0 m (pc + 3) ls (.int r :: rest))) : W p l e R s m args below meth c H locs cells slots Q (F0 m pc ls st0) := by
  have hf9 := hw.free hS hA
  exact va_calli (va_runS (As := As) (rest := rest) ⟨X.1, X.2.1, X.2.2.2.2.2.2, X.2.2.2.2.1, X.2.2.2.1⟩ hM cw ⟨wB_blind, fun U hU hW => ⟨rfl, wB_at hK hw hZ hS hA hU hW⟩⟩ rfl hn hsz hst (by simpa [JFrame.monitorRoom] using hW9) hdg ⟨hcl, hsl⟩) hS (fun q _ h => hf9 q h) hf9 (fun r M1 t H1 locs1 ht hvm hp hB hz hk hS1 => kk r M1 H1 locs1 hp (by have h9 := hB.1; rw [ht] at h9; exact h9.weaken (fun q e hq => hf9 q (h9.in hq))) hS1 hz hk)
theorem m_callVv (X : cX p s m meth c cc nL ret Ts own args) {dce : Nat} {y : MethodName} {bytes : ByteArray} {maxL mc ms n index : Nat} {ret9 : Option FieldType} {ws : List Cond} {rm : Room} {As : List Value} {b ci N9 : Nat} {C : String} {T9 : u_T} {fs9 : List Value} (hc : vwCl[ci]? = some (C, T9, N9)) (he : M b = some (.inr (ci, fs9))) {post : gM → Prop} (hK : wK G s) (hw : wd G A M H) (hZ : wZ dce A s s.heap) (hS : va_S A s.heap H locs) (hA : ∀ q : Nat, s.heap.size ≤ q → A q) (hM : Met l y ws rm (va_Pc (.ref b :: As) (wB G dce H.size M)) (QV G post (wA M H.size)) mc ms (wA M H.size)) (cw : CallW R s args own C index y bytes maxL ret9 ws rm mc ms n) (hn : As.length = n) (hsz : ls.size = nL) (hst : st0 = As.reverse ++ .ref b :: rest) (hW9 : (rest.map fun v => v.category).sum ≤ 8) (hdg : decode cc pc = .ok (.invokevirtual index, 3)) (hcl : cells + mc ≤ R.cells) (hsl : slots + ms ≤ R.slots)
    (kk : ∀ (M1 : gM) (H1 : Heap) (locs1 : List Loc), post M1 → wd G A M1 H1 → va_S A s.heap H1 locs1 → H.size ≤ H1.size → (∀ q : Nat, q < H.size → ¬ wA M H.size q → H1[q]? = H[q]?) → W p l e R s m args below meth c H1 locs1 (cells + mc) (slots + ms) Q (F0 m (pc + 3) ls rest)) : W p l e R s m args below meth c H locs cells slots Q (F0 m pc ls st0) := by
  obtain ⟨ws0, hP, hD, hM0⟩ := id hw
  obtain ⟨k0, hk0⟩ := List.getElem?_of_mem ((hM0 b _).mp he)
  have hf9 := hw.free hS hA
  exact va_callv (va_runV (As := As) (rest := rest) ⟨X.1, X.2.1, X.2.2.2.2.2.2, X.2.2.2.2.1, X.2.2.2.1⟩ hM cw ⟨wB_blind, va_recv hK hP hc hk0, fun U hU hW => ⟨rfl, wB_at hK hw hZ hS hA hU hW⟩⟩ rfl hn hsz hst (by simpa [JFrame.monitorRoom] using hW9) hdg ⟨hcl, hsl⟩) hS (fun q _ h => hf9 q h) hf9 (fun M1 t H1 locs1 ht hvm hp hB hz hk hS1 => kk M1 H1 locs1 hp (by have h9 := hB.1; rw [ht] at h9; exact h9.weaken (fun q e hq => hf9 q (h9.in hq))) hS1 hz hk)
theorem m_callSv (X : cX p s m meth c cc nL ret Ts own args) {dce : Nat} {y : MethodName} {bytes : ByteArray} {maxL mc ms n index : Nat} {ret9 : Option FieldType} {ws : List Cond} {rm : Room} {As : List Value}  {post : gM → Prop} (hK : wK G s) (hw : wd G A M H) (hZ : wZ dce A s s.heap) (hS : va_S A s.heap H locs) (hA : ∀ q : Nat, s.heap.size ≤ q → A q) (hM : Met l y ws rm (va_Pc (As) (wB G dce H.size M)) (QV G post (wA M H.size)) mc ms (wA M H.size)) (cw : CallB R s args own index y bytes maxL ret9 ws rm mc ms n ∧ (Cond.static y).before args s = true) (hn : As.length = n) (hsz : ls.size = nL) (hst : st0 = As.reverse ++ rest) (hW9 : (rest.map fun v => v.category).sum ≤ 8) (hdg : decode cc pc = .ok (.invokestatic index, 3)) (hcl : cells + mc ≤ R.cells) (hsl : slots + ms ≤ R.slots)
    (kk : ∀ (M1 : gM) (H1 : Heap) (locs1 : List Loc), post M1 → wd G A M1 H1 → va_S A s.heap H1 locs1 → H.size ≤ H1.size → (∀ q : Nat, q < H.size → ¬ wA M H.size q → H1[q]? = H[q]?) → W p l e R s m args below meth c H1 locs1 (cells + mc) (slots + ms) Q (F0 m (pc + 3) ls rest)) : W p l e R s m args below meth c H locs cells slots Q (F0 m pc ls st0) := by
  have hf9 := hw.free hS hA
  exact va_callv (va_runS (As := As) (rest := rest) ⟨X.1, X.2.1, X.2.2.2.2.2.2, X.2.2.2.2.1, X.2.2.2.1⟩ hM cw ⟨wB_blind, fun U hU hW => ⟨rfl, wB_at hK hw hZ hS hA hU hW⟩⟩ rfl hn hsz hst (by simpa [JFrame.monitorRoom] using hW9) hdg ⟨hcl, hsl⟩) hS (fun q _ h => hf9 q h) hf9 (fun M1 t H1 locs1 ht hvm hp hB hz hk hS1 => kk M1 H1 locs1 hp (by have h9 := hB.1; rw [ht] at h9; exact h9.weaken (fun q e hq => hf9 q (h9.in hq))) hS1 hz hk)
theorem m_callIv (X : cX p s m meth c cc nL ret Ts own args) {dce : Nat} {y : MethodName} {bytes : ByteArray} {maxL mc ms n index : Nat} {ret9 : Option FieldType} {ws : List Cond} {rm : Room} {As : List Value} {b : Nat} {post : gM → Prop} (hK : wK G s) (hw : wd G A M H) (hZ : wZ dce A s s.heap) (hS : va_S A s.heap H locs) (hA : ∀ q : Nat, s.heap.size ≤ q → A q) (hM : Met l y ws rm (va_Pc (.ref b :: As) (wB G dce H.size M)) (QV G post (wA M H.size)) mc ms (wA M H.size)) (cw : CallB R s args own index y bytes maxL none ws rm mc ms n ∧ y.name = "<init>" ∧ (Cond.instanceMethod y).before args s = true) (hn : As.length = n) (hsz : ls.size = nL) (hst : st0 = As.reverse ++ .ref b :: rest) (hW9 : (rest.map fun v => v.category).sum ≤ 8) (hdg : decode cc pc = .ok (.invokespecial index, 3)) (hcl : cells + mc ≤ R.cells) (hsl : slots + ms ≤ R.slots)
    (kk : ∀ (M1 : gM) (H1 : Heap) (locs1 : List Loc), post M1 → wd G A M1 H1 → va_S A s.heap H1 locs1 → H.size ≤ H1.size → (∀ q : Nat, q < H.size → ¬ wA M H.size q → H1[q]? = H[q]?) → W p l e R s m args below meth c H1 locs1 (cells + mc) (slots + ms) Q (F0 m (pc + 3) ls rest)) : W p l e R s m args below meth c H locs cells slots Q (F0 m pc ls st0) := by
  have hf9 := hw.free hS hA
  exact va_callv (va_runI (As := As) (rest := rest) ⟨X.1, X.2.1, X.2.2.2.2.2.2, X.2.2.2.2.1, X.2.2.2.1⟩ hM cw ⟨wB_blind, fun U hU hW => ⟨rfl, wB_at hK hw hZ hS hA hU hW⟩⟩ rfl hn hsz hst (by simpa [JFrame.monitorRoom] using hW9) hdg ⟨hcl, hsl⟩) hS (fun q _ h => hf9 q h) hf9 (fun M1 t H1 locs1 ht hvm hp hB hz hk hS1 => kk M1 H1 locs1 hp (by have h9 := hB.1; rw [ht] at h9; exact h9.weaken (fun q e hq => hf9 q (h9.in hq))) hS1 hz hk)
theorem m_callVr (X : cX p s m meth c cc nL ret Ts own args) {dce : Nat} {y : MethodName} {bytes : ByteArray} {maxL mc ms n index : Nat} {ret9 : Option FieldType} {ws : List Cond} {rm : Room} {As : List Value} {b ci N9 : Nat} {C : String} {T9 : u_T} {fs9 : List Value} (hc : vwCl[ci]? = some (C, T9, N9)) (he : M b = some (.inr (ci, fs9))) {post : Nat → gM → Prop} (hK : wK G s) (hw : wd G A M H) (hZ : wZ dce A s s.heap) (hS : va_S A s.heap H locs) (hA : ∀ q : Nat, s.heap.size ≤ q → A q) (hM : Met l y ws rm (va_Pc (.ref b :: As) (wB G dce H.size M)) (QR G post (wA M H.size)) mc ms (wA M H.size)) (cw : CallW R s args own C index y bytes maxL ret9 ws rm mc ms n) (hn : As.length = n) (hsz : ls.size = nL) (hst : st0 = As.reverse ++ .ref b :: rest) (hW9 : (rest.map fun v => v.category).sum ≤ 8) (hdg : decode cc pc = .ok (.invokevirtual index, 3)) (hcl : cells + mc ≤ R.cells) (hsl : slots + ms ≤ R.slots)
    (kk : ∀ (r : Nat) (M1 : gM) (H1 : Heap) (locs1 : List Loc), post r M1 → wd G A M1 H1 → va_S A s.heap H1 locs1 → H.size ≤ H1.size → (∀ q : Nat, q < H.size → ¬ wA M H.size q → H1[q]? = H[q]?) → W p l e R s m args below meth c H1 locs1 (cells + mc) (slots + ms) Q (F0 m (pc + 3) ls (.ref r :: rest))) : W p l e R s m args below meth c H locs cells slots Q (F0 m pc ls st0) := by
  obtain ⟨ws0, hP, hD, hM0⟩ := id hw
  obtain ⟨k0, hk0⟩ := List.getElem?_of_mem ((hM0 b _).mp he)
  have hf9 := hw.free hS hA
  exact va_callr (va_runV (As := As) (rest := rest) ⟨X.1, X.2.1, X.2.2.2.2.2.2, X.2.2.2.2.1, X.2.2.2.1⟩ hM cw ⟨wB_blind, va_recv hK hP hc hk0, fun U hU hW => ⟨rfl, wB_at hK hw hZ hS hA hU hW⟩⟩ rfl hn hsz hst (by simpa [JFrame.monitorRoom] using hW9) hdg ⟨hcl, hsl⟩) hS (fun q _ h => hf9 q h) hf9 (fun M1 r t H1 locs1 ht hvm hp hB hz hk hS1 => kk r M1 H1 locs1 hB.1 (by have h9 := hB.2.1; rw [ht] at h9; exact h9.weaken (fun q e hq => hf9 q (h9.in hq))) hS1 hz hk)
theorem m_callSr (X : cX p s m meth c cc nL ret Ts own args) {dce : Nat} {y : MethodName} {bytes : ByteArray} {maxL mc ms n index : Nat} {ret9 : Option FieldType} {ws : List Cond} {rm : Room} {As : List Value}  {post : Nat → gM → Prop} (hK : wK G s) (hw : wd G A M H) (hZ : wZ dce A s s.heap) (hS : va_S A s.heap H locs) (hA : ∀ q : Nat, s.heap.size ≤ q → A q) (hM : Met l y ws rm (va_Pc (As) (wB G dce H.size M)) (QR G post (wA M H.size)) mc ms (wA M H.size)) (cw : CallB R s args own index y bytes maxL ret9 ws rm mc ms n ∧ (Cond.static y).before args s = true) (hn : As.length = n) (hsz : ls.size = nL) (hst : st0 = As.reverse ++ rest) (hW9 : (rest.map fun v => v.category).sum ≤ 8) (hdg : decode cc pc = .ok (.invokestatic index, 3)) (hcl : cells + mc ≤ R.cells) (hsl : slots + ms ≤ R.slots)
    (kk : ∀ (r : Nat) (M1 : gM) (H1 : Heap) (locs1 : List Loc), post r M1 → wd G A M1 H1 → va_S A s.heap H1 locs1 → H.size ≤ H1.size → (∀ q : Nat, q < H.size → ¬ wA M H.size q → H1[q]? = H[q]?) → W p l e R s m args below meth c H1 locs1 (cells + mc) (slots + ms) Q (F0 m (pc + 3) ls (.ref r :: rest))) : W p l e R s m args below meth c H locs cells slots Q (F0 m pc ls st0) := by
  have hf9 := hw.free hS hA
  exact va_callr (va_runS (As := As) (rest := rest) ⟨X.1, X.2.1, X.2.2.2.2.2.2, X.2.2.2.2.1, X.2.2.2.1⟩ hM cw ⟨wB_blind, fun U hU hW => ⟨rfl, wB_at hK hw hZ hS hA hU hW⟩⟩ rfl hn hsz hst (by simpa [JFrame.monitorRoom] using hW9) hdg ⟨hcl, hsl⟩) hS (fun q _ h => hf9 q h) hf9 (fun M1 r t H1 locs1 ht hvm hp hB hz hk hS1 => kk r M1 H1 locs1 hB.1 (by have h9 := hB.2.1; rw [ht] at h9; exact h9.weaken (fun q e hq => hf9 q (h9.in hq))) hS1 hz hk)
theorem m_callNIv (X : cX p s m meth c cc nL ret Ts own args) {dce : Nat} {y : MethodName} {bytes : ByteArray} {maxL mc ms n index : Nat} {ret9 : Option FieldType} {ws : List Cond} {rm : Room} {As : List Value} {b : Nat} {host : String} {post : gM → Prop} (hK : wK G s) (hw : wd G A M H) (hZ : wZ dce A s s.heap) (hS : va_S A s.heap H locs) (hA : ∀ q : Nat, s.heap.size ≤ q → A q) (hM : Met l y ws rm (va_Pc (.ref b :: As) (wB G dce H.size M)) (QV G post (wA M H.size)) mc ms (wA M H.size)) (cw : va_CN R s args own index y host bytes maxL none ws rm mc ms n ∧ y.name = "<init>" ∧ (Cond.instanceMethod y).before args s = true) (hn : As.length = n) (hsz : ls.size = nL) (hst : st0 = As.reverse ++ .ref b :: rest) (hW9 : (rest.map fun v => v.category).sum ≤ 8) (hdg : decode cc pc = .ok (.invokespecial index, 3)) (hcl : cells + mc ≤ R.cells) (hsl : slots + ms ≤ R.slots)
    (kk : ∀ (M1 : gM) (H1 : Heap) (locs1 : List Loc), post M1 → wd G A M1 H1 → va_S A s.heap H1 locs1 → H.size ≤ H1.size → (∀ q : Nat, q < H.size → ¬ wA M H.size q → H1[q]? = H[q]?) → W p l e R s m args below meth c H1 locs1 (cells + mc) (slots + ms) Q (F0 m (pc + 3) ls rest)) : W p l e R s m args below meth c H locs cells slots Q (F0 m pc ls st0) := by
  have hf9 := hw.free hS hA
  exact va_callv (va_runIN (As := As) (rest := rest) ⟨X.1, X.2.1, X.2.2.2.2.2.2, X.2.2.2.2.1, X.2.2.2.1⟩ hM cw ⟨wB_blind, fun U hU hW => ⟨rfl, wB_at hK hw hZ hS hA hU hW⟩⟩ rfl hn hsz hst (by simpa [JFrame.monitorRoom] using hW9) hdg ⟨hcl, hsl⟩) hS (fun q _ h => hf9 q h) hf9 (fun M1 t H1 locs1 ht hvm hp hB hz hk hS1 => kk M1 H1 locs1 hp (by have h9 := hB.1; rw [ht] at h9; exact h9.weaken (fun q e hq => hf9 q (h9.in hq))) hS1 hz hk)
theorem m_callNSi (X : cX p s m meth c cc nL ret Ts own args) {dce : Nat} {y : MethodName} {bytes : ByteArray} {maxL mc ms n index : Nat} {ret9 : Option FieldType} {ws : List Cond} {rm : Room} {As : List Value} {b : Nat} {host : String} {post : Int32 → gM → Prop} (hK : wK G s) (hw : wd G A M H) (hZ : wZ dce A s s.heap) (hS : va_S A s.heap H locs) (hA : ∀ q : Nat, s.heap.size ≤ q → A q) (hM : Met l y ws rm (va_Pc (As) (wB G dce H.size M)) (QI G post (wA M H.size)) mc ms (wA M H.size)) (cw : va_CN R s args own index y host bytes maxL ret9 ws rm mc ms n ∧ (Cond.static y).before args s = true ∧ True) (hn : As.length = n) (hsz : ls.size = nL) (hst : st0 = As.reverse ++ rest) (hW9 : (rest.map fun v => v.category).sum ≤ 8) (hdg : decode cc pc = .ok (.invokestatic index, 3)) (hcl : cells + mc ≤ R.cells) (hsl : slots + ms ≤ R.slots)
    (kk : ∀ (r : Int32) (M1 : gM) (H1 : Heap) (locs1 : List Loc), post r M1 → wd G A M1 H1 → va_S A s.heap H1 locs1 → H.size ≤ H1.size → (∀ q : Nat, q < H.size → ¬ wA M H.size q → H1[q]? = H[q]?) → W p l e R s m args below meth c H1 locs1 (cells + mc) (slots + ms) Q (F0 m (pc + 3) ls (.int r :: rest))) : W p l e R s m args below meth c H locs cells slots Q (F0 m pc ls st0) := by
  have hf9 := hw.free hS hA
  exact va_calli (va_runSN (As := As) (rest := rest) ⟨X.1, X.2.1, X.2.2.2.2.2.2, X.2.2.2.2.1, X.2.2.2.1⟩ hM cw ⟨wB_blind, fun U hU hW => ⟨rfl, wB_at hK hw hZ hS hA hU hW⟩⟩ rfl hn hsz hst (by simpa [JFrame.monitorRoom] using hW9) hdg ⟨hcl, hsl⟩) hS (fun q _ h => hf9 q h) hf9 (fun r M1 t H1 locs1 ht hvm hp hB hz hk hS1 => kk r M1 H1 locs1 hp (by have h9 := hB.1; rw [ht] at h9; exact h9.weaken (fun q e hq => hf9 q (h9.in hq))) hS1 hz hk)
theorem m_gets {dce : Nat} (X : cX p s m meth c cc nL ret Ts own args) {index : Nat} (hZ : wZ dce A s s.heap) (hS : va_S A s.heap H locs) (hlink : Cond.fieldLink own index "java/util/ArrayList" "DEFAULTCAPACITY_EMPTY_ELEMENTDATA" "[Ljava/lang/Object;" ∈ Ts) (hdg : decode cc pc = .ok (.getstatic index, 3)) (kk : W p l e R s m args below meth c H locs cells slots Q (F0 m (pc + 3) ls (.ref dce :: rest))) : W p l e R s m args below meth c H locs cells slots Q (F0 m pc ls rest) :=
  va_gets X.1 X.2.1 hZ.2.2.1 hS X.2.2.2.2.1 (X.2.2.2.1 _ hlink) (fun _ h => h) hdg kk
theorem m_dlen {dce : Nat} (X : cX p s m meth c cc nL ret Ts own args) (hZ : wZ dce A s s.heap) (hS : va_S A s.heap H locs) (hdg : decode cc pc = .ok (.arraylength, 1)) (kk : W p l e R s m args below meth c H locs cells slots Q (F0 m (pc + 1) ls (.int 0 :: rest))) : W p l e R s m args below meth c H locs cells slots Q (F0 m pc ls (.ref dce :: rest)) :=
  va_tlen X.1 X.2.1 hZ.2.2.2.1 hS (v := 0) rfl hdg kk
theorem m_cast (X : cX p s m meth c cc nL ret Ts own args) {nm : String} {T9 : u_T} {N9 ci index : Nat} {fs : List Value} (hlink : Cond.classLink own index nm ∈ Ts) (hK : wK G s) (hw : wd G A M H) (he : M a = some (.inr (ci, fs))) (hc : vwCl[ci]? = some (nm, T9, N9)) (hdg : decode cc pc = .ok (.checkcast index, 3)) (kk : W p l e R s m args below meth c H locs cells slots Q (F0 m (pc + 3) ls (.ref a :: rest))) : W p l e R s m args below meth c H locs cells slots Q (F0 m pc ls (.ref a :: rest)) := by
  obtain ⟨ws, hP, hD, hM⟩ := hw
  obtain ⟨k0, hk0⟩ := List.getElem?_of_mem ((hM a _).mp he)
  exact va_castS X.1 X.2.1 X.2.2.2.2.1 (X.2.2.2.1 _ hlink) (hK.1 ci _ hc).2 (va_recv hK hP hc hk0) hdg kk
theorem m_aast (X : cX p s m meth c cc nL ret Ts own args) (hK : wK G s) (hw : wd G A M H) (hS : va_S A H0 H locs) (t0 : Nat) {cA : ClassId} {nm : String} {T9 : u_T} {N9 ci n v : Nat} {f : Nat → Option Nat} {fs : List Value} (he : M a = some (.inl (cA, n, .inr (.inr (.inr (.inr f)))))) (ht : (tyL G.2)[t0]? = some (cA, .object nm)) (hv : M v = some (.inr (ci, fs))) (hc : vwCl[ci]? = some (nm, T9, N9)) {i : Int32} (hin : vp_in i n) (hdg : decode cc pc = .ok (.aastore, 1))
    (kk : ∀ (M1 : gM) (H1 : Heap) (locs1 : List Loc), M1 = mu M a (.inl (cA, n, .inr (.inr (.inr (.inr (va_up f i.toNatClampNeg (some v))))))) → wd G A M1 H1 → va_S A H0 H1 locs1 → W p l e R s m args below meth c H1 locs1 cells slots Q (F0 m (pc + 1) ls rest)) : W p l e R s m args below meth c H locs cells slots Q (F0 m pc ls (.ref v :: .int i :: .ref a :: rest)) := by
  obtain ⟨ws, hP, hD, hM⟩ := hw
  obtain ⟨k0, hk0⟩ := List.getElem?_of_mem ((hM a _).mp he)
  obtain ⟨k1, hk1⟩ := List.getElem?_of_mem ((hM v _).mp hv)
  exact va_astq X.1 X.2.1 hK hP hD hS k0 t0 k1 ci (r := (nm, T9, N9)) hk0 ht hk1 hc hin hdg (fun H1 locs1 hP1 hD1 hS1 => kk _ H1 locs1 rfl ⟨_, hP1, hD1, wd_set hD hM hk0⟩ hS1)
theorem m_aastO (X : cX p s m meth c cc nL ret Ts own args) (hK : wK G s) (hw : wd G A M H) (hS : va_S A H0 H locs) {nm : String} {T9 : u_T} {N9 ci n v : Nat} {f : Nat → Option Nat} {fs : List Value} (hca : va_Nw (.castable nm "java/lang/Object") s) (he : M a = some (.inl (G.2 3, n, .inr (.inr (.inr (.inr f)))))) (hv : M v = some (.inr (ci, fs))) (hc : vwCl[ci]? = some (nm, T9, N9)) {i : Int32} (hin : vp_in i n) (hdg : decode cc pc = .ok (.aastore, 1))
    (kk : ∀ (M1 : gM) (H1 : Heap) (locs1 : List Loc), M1 = mu M a (.inl (G.2 3, n, .inr (.inr (.inr (.inr (va_up f i.toNatClampNeg (some v))))))) → wd G A M1 H1 → va_S A H0 H1 locs1 → W p l e R s m args below meth c H1 locs1 cells slots Q (F0 m (pc + 1) ls rest)) : W p l e R s m args below meth c H locs cells slots Q (F0 m pc ls (.ref v :: .int i :: .ref a :: rest)) := by
  obtain ⟨ws, hP, hD, hM⟩ := hw
  obtain ⟨k0, hk0⟩ := List.getElem?_of_mem ((hM a _).mp he)
  obtain ⟨k1, hk1⟩ := List.getElem?_of_mem ((hM v _).mp hv)
  obtain ⟨c3, c4, hc3, hc4, hasg⟩ := Cond.castable_spec (va_Nw.use (A := args) rfl hca)
  exact va_astqM X.1 X.2.1 hK hP hD hS k0 3 (E := "java/lang/Object") hk0 rfl (va_rAny hK hP hk1 hc (fun comp c0 h1 h2 => by cases Option.some.inj (h1.symm.trans hc4); cases Option.some.inj (h2.symm.trans hc3); exact hasg)) hin hdg (fun H1 locs1 hP1 hD1 hS1 => kk _ H1 locs1 rfl ⟨_, hP1, hD1, wd_set hD hM hk0⟩ hS1)
theorem m_throwS {dce mc ms : Nat} (X : cX p s m meth c cc nL ret Ts own args) (hno : ∀ x ∈ c.exceptionTable.toList, False) (hl : l.stackTraces = false) {Qc : Array Value → State → Outcome → State → Prop} {px : String → gM → Prop} {cls text : String} {names : List String} {ik is ic : Nat} (howR : own = RX6)
    (hcls : Bundle.fit cls = true) (hnames : ∀ n ∈ names, Bundle.fit n = true) (hk : Cond.classLink own ik cls ∈ Ts) (hini : Cond.initialized cls ∈ Ts) (htx : (is, text) ∈ envT) (hg : ∀ w ∈ (vx_atS own ic cls names).filter goodWord, w ∈ Ts) (hng : ∀ w ∈ (vx_atS own ic cls names).filter (fun w => !goodWord w), w ∈ [Cond.castable cls cls]) (hca : (cls, cls) ∈ envC)
    (hgood : ∀ w ∈ Cond.classLink own ik cls :: Cond.initialized cls :: vx_atS own ic cls names, vx_ot w = true) (hK : wK G s) (hw : wd G A M H) (hZ : wZ dce A s s.heap) (hS : va_S A s.heap H locs) (hsz : ls.size = nL)
    (d0 : decode cc pc = .ok (.new ik, 3)) (d3 : decode cc (pc + 3) = .ok (.dup, 1)) (d4 : decode cc (pc + 4) = .ok (.ldc is, 2)) (d6 : decode cc (pc + 6) = .ok (.invokespecial ic, 3)) (d9 : decode cc (pc + 9) = .ok (.athrow, 1))
    (hRf : names.length + 3 < R.frames) (hRl : (rest.map fun v => v.category).sum + (13 * (names.length + 1) + 43) ≤ R.locals) (hRc : cells + 1 ≤ R.cells) (hRs : slots + 6 ≤ R.slots) (hc : cells + 1 ≤ mc) (hs : slots + 6 ≤ ms) (hp : px cls M) :
    W p l e R s m args below meth c H locs cells slots (vx_MQ below Qc (QX G px A) args s mc ms A) (F0 m pc ls rest) := by
  obtain ⟨hx, hb, hr, hts, hown, hlk, hml⟩ := X
  obtain ⟨sa, hsa⟩ := hZ.2.2.2.2.2.2.1 _ htx
  subst howR
  refine vx_throwS hx hb hl hown hcls hnames (hts _ hk) (hts _ hini) hsa (vx_hat (fun w h => hts _ (hg w h)) hng (vx_c (va_Nw.use rfl (hZ.2.2.2.2.1 _ hca)) vx_n)) hgood hZ.1 hZ.2.1 hS (hsz.trans hml.symm) d0 d3 d4 d6 d9 (fun x h => (hno x h).elim) hRf hRl hRc hRs hlk (fun t hvm h1 h2 => ?_) hS.2.2 hc hs
  exact ⟨M, trivial, ⟨hp, hw.kept (fun q e h => h2 q (hw.lt h)), va_K.moved hvm hK⟩, Nat.le_trans hS.1 h1, fun q q1 q2 => (h2 q (Nat.lt_of_lt_of_le q1 hS.1)).trans (hS.2.1 q q1 q2)⟩
theorem x_callr {mc ms : Nat} {free : Addr → Prop} {A0 A1 : Nat → Prop} {a9 : Array Value} {S SX : Type} {post : S → Prop} {px : SX → Prop} {B : S → Nat → State → Prop} {BX : String → SX → State → Prop} {AX : Nat → Prop} (hr : vx_Run p l e R s m args below meth c H locs cells slots mc ms (F0 m pc ls st0) rest (va_Qr post B A1 a9) (vx_X px BX AX) free) (hS : va_S A0 H0 H locs) (hA : ∀ q, q < H.size → A1 q → A0 q) (hf : ∀ q, free q → A0 q) (hAX : ∀ q, q < H.size → AX q → A0 q)
    (kx : ∀ (E : String) (ce : Cell) (q9 : Addr) (u : SX) (t : State) (H1 : Heap) (locs1 : List Loc), t.heap = H1 → s.vm.Alike t.vm → px u → BX E u t → H.size ≤ H1.size → (∀ q : Nat, q < H.size → ¬ AX q → H1[q]? = H[q]?) → va_S A0 H0 H1 locs1 → H1[q9]? = some ce → ce.vm = .none → s.vm.findClass E = some ce.cls → vx_W p l e R s m args below meth c H1 locs1 (cells + mc) (slots + ms) Q (F0 m pc ls rest) q9)
    (kk : ∀ (u : S) (ra : Nat) (t : State) (H1 : Heap) (locs1 : List Loc), t.heap = H1 → s.vm.Alike t.vm → post u → B u ra t → H.size ≤ H1.size → (∀ q : Nat, q < H.size → ¬ A1 q → H1[q]? = H[q]?) → va_S A0 H0 H1 locs1 → W p l e R s m args below meth c H1 locs1 (cells + mc) (slots + ms) Q (F0 m (pc + 3) ls (.ref ra :: rest))) : W p l e R s m args below meth c H locs cells slots Q (F0 m pc ls st0) := by
  intro T hT X
  rcases hr T hT X with ⟨v, st₀, t, T', L, h0, X', hL, e1, e2, ⟨⟨u, ra, hv, hp, hb⟩, hF⟩, st⟩ | ⟨q, st₀, t, T', L, E, ce, h0, X', hL, e1, e2, ⟨u, hp, hb, hF⟩, hce, hcv, hcl, st⟩
  · cases hv
    obtain ⟨k1, k2, k3⟩ := vx_keep h0 e1 hS hA hf hL hF
    obtain ⟨t2, a1, b1⟩ := kk u ra t T'.heap (locs ++ L) e1.symm (by rw [← e2]; exact X'.warmed.alike) hp hb k1 k2 k3 T' rfl X'
    exact ⟨t2, st t2 a1, b1⟩
  · obtain ⟨k1, k2, k3⟩ := vx_keep h0 e1 hS hAX hf hL hF
    obtain ⟨t2, a1, b1⟩ := kx E ce q u t T'.heap (locs ++ L) e1.symm (by rw [← e2]; exact X'.warmed.alike) hp hb k1 k2 k3 (by rw [e1]; exact hce) hcv hcl T' rfl X'
    exact ⟨t2, st.trans a1, b1⟩
theorem x_callVi (X : cX p s m meth c cc nL ret Ts own args) {dce : Nat} {y : MethodName} {bytes : ByteArray} {maxL mc ms n index : Nat} {ret9 : Option FieldType} {ws : List Cond} {rm : Room} {As : List Value} {b ci N9 : Nat} {C : String} {T9 : u_T} {fs9 : List Value} (hc : vwCl[ci]? = some (C, T9, N9)) (he : M b = some (.inr (ci, fs9))) {post : Int32 → gM → Prop} {px : String → gM → Prop} (hK : wK G s) (hw : wd G A M H) (hZ : wZ dce A s s.heap) (hS : va_S A s.heap H locs) (hA : ∀ q : Nat, s.heap.size ≤ q → A q) (hM : vx_Met l y ws rm (va_Pc (.ref b :: As) (wB G dce H.size M)) (QI G post (wA M H.size)) (QX G px (wA M H.size)) mc ms (wA M H.size)) (cw : CallW R s args own C index y bytes maxL ret9 ws rm mc ms n) (hn : As.length = n) (hsz : ls.size = nL) (hst : st0 = As.reverse ++ .ref b :: rest) (hW9 : (rest.map fun v => v.category).sum ≤ 8) (hdg : decode cc pc = .ok (.invokevirtual index, 3)) (hcl : cells + mc ≤ R.cells) (hsl : slots + ms ≤ R.slots)
    (kx : ∀ (E : String) (ce : Cell) (q9 : Addr) (M1 : gM) (H1 : Heap) (locs1 : List Loc), px E M1 → wd G A M1 H1 → va_S A s.heap H1 locs1 → H.size ≤ H1.size → (∀ q : Nat, q < H.size → ¬ wA M H.size q → H1[q]? = H[q]?) → H1[q9]? = some ce → ce.vm = .none → s.vm.findClass E = some ce.cls → vx_W p l e R s m args below meth c H1 locs1 (cells + mc) (slots + ms) Q (F0 m pc ls rest) q9)
    (kk : ∀ (r : Int32) (M1 : gM) (H1 : Heap) (locs1 : List Loc), post r M1 → wd G A M1 H1 → va_S A s.heap H1 locs1 → H.size ≤ H1.size → (∀ q : Nat, q < H.size → ¬ wA M H.size q → H1[q]? = H[q]?) → W p l e R s m args below meth c H1 locs1 (cells + mc) (slots + ms) Q (F0 m (pc + 3) ls (.int r :: rest))) : W p l e R s m args below meth c H locs cells slots Q (F0 m pc ls st0) := by
  obtain ⟨ws0, hP, hD, hM0⟩ := id hw
  obtain ⟨k0, hk0⟩ := List.getElem?_of_mem ((hM0 b _).mp he)
  have hf9 := hw.free hS hA
  exact vx_calli (vx_runV (As := As) (rest := rest) ⟨X.1, X.2.1, X.2.2.2.2.2.2, X.2.2.2.2.1, X.2.2.2.1⟩ hM cw ⟨wB_blind, va_recv hK hP hc hk0, fun U hU hW => ⟨rfl, wB_at hK hw hZ hS hA hU hW⟩⟩ rfl hn hsz hst (by simpa [JFrame.monitorRoom] using hW9) hdg ⟨hcl, hsl⟩) hS (fun q _ h => hf9 q h) hf9 (fun q _ h => hf9 q h) (fun E ce q9 M1 t H1 locs1 ht hvm _ hB hz hk hS1 hce hcv hcl9 => kx E ce q9 M1 H1 locs1 hB.1 (by have h9 := hB.2.1; rw [ht] at h9; exact h9.weaken (fun q e hq => hf9 q (h9.in hq))) hS1 hz hk hce hcv hcl9) (fun r M1 t H1 locs1 ht hvm hp hB hz hk hS1 => kk r M1 H1 locs1 hp (by have h9 := hB.1; rw [ht] at h9; exact h9.weaken (fun q e hq => hf9 q (h9.in hq))) hS1 hz hk)
theorem x_callSi (X : cX p s m meth c cc nL ret Ts own args) {dce : Nat} {y : MethodName} {bytes : ByteArray} {maxL mc ms n index : Nat} {ret9 : Option FieldType} {ws : List Cond} {rm : Room} {As : List Value}  {post : Int32 → gM → Prop} {px : String → gM → Prop} (hK : wK G s) (hw : wd G A M H) (hZ : wZ dce A s s.heap) (hS : va_S A s.heap H locs) (hA : ∀ q : Nat, s.heap.size ≤ q → A q) (hM : vx_Met l y ws rm (va_Pc (As) (wB G dce H.size M)) (QI G post (wA M H.size)) (QX G px (wA M H.size)) mc ms (wA M H.size)) (cw : CallB R s args own index y bytes maxL ret9 ws rm mc ms n ∧ (Cond.static y).before args s = true) (hn : As.length = n) (hsz : ls.size = nL) (hst : st0 = As.reverse ++ rest) (hW9 : (rest.map fun v => v.category).sum ≤ 8) (hdg : decode cc pc = .ok (.invokestatic index, 3)) (hcl : cells + mc ≤ R.cells) (hsl : slots + ms ≤ R.slots)
    (kx : ∀ (E : String) (ce : Cell) (q9 : Addr) (M1 : gM) (H1 : Heap) (locs1 : List Loc), px E M1 → wd G A M1 H1 → va_S A s.heap H1 locs1 → H.size ≤ H1.size → (∀ q : Nat, q < H.size → ¬ wA M H.size q → H1[q]? = H[q]?) → H1[q9]? = some ce → ce.vm = .none → s.vm.findClass E = some ce.cls → vx_W p l e R s m args below meth c H1 locs1 (cells + mc) (slots + ms) Q (F0 m pc ls rest) q9)
    (kk : ∀ (r : Int32) (M1 : gM) (H1 : Heap) (locs1 : List Loc), post r M1 → wd G A M1 H1 → va_S A s.heap H1 locs1 → H.size ≤ H1.size → (∀ q : Nat, q < H.size → ¬ wA M H.size q → H1[q]? = H[q]?) → W p l e R s m args below meth c H1 locs1 (cells + mc) (slots + ms) Q (F0 m (pc + 3) ls (.int r :: rest))) : W p l e R s m args below meth c H locs cells slots Q (F0 m pc ls st0) := by
  have hf9 := hw.free hS hA
  exact vx_calli (vx_runS (As := As) (rest := rest) ⟨X.1, X.2.1, X.2.2.2.2.2.2, X.2.2.2.2.1, X.2.2.2.1⟩ hM cw ⟨wB_blind, fun U hU hW => ⟨rfl, wB_at hK hw hZ hS hA hU hW⟩⟩ rfl hn hsz hst (by simpa [JFrame.monitorRoom] using hW9) hdg ⟨hcl, hsl⟩) hS (fun q _ h => hf9 q h) hf9 (fun q _ h => hf9 q h) (fun E ce q9 M1 t H1 locs1 ht hvm _ hB hz hk hS1 hce hcv hcl9 => kx E ce q9 M1 H1 locs1 hB.1 (by have h9 := hB.2.1; rw [ht] at h9; exact h9.weaken (fun q e hq => hf9 q (h9.in hq))) hS1 hz hk hce hcv hcl9) (fun r M1 t H1 locs1 ht hvm hp hB hz hk hS1 => kk r M1 H1 locs1 hp (by have h9 := hB.1; rw [ht] at h9; exact h9.weaken (fun q e hq => hf9 q (h9.in hq))) hS1 hz hk)
theorem x_callVv (X : cX p s m meth c cc nL ret Ts own args) {dce : Nat} {y : MethodName} {bytes : ByteArray} {maxL mc ms n index : Nat} {ret9 : Option FieldType} {ws : List Cond} {rm : Room} {As : List Value} {b ci N9 : Nat} {C : String} {T9 : u_T} {fs9 : List Value} (hc : vwCl[ci]? = some (C, T9, N9)) (he : M b = some (.inr (ci, fs9))) {post : gM → Prop} {px : String → gM → Prop} (hK : wK G s) (hw : wd G A M H) (hZ : wZ dce A s s.heap) (hS : va_S A s.heap H locs) (hA : ∀ q : Nat, s.heap.size ≤ q → A q) (hM : vx_Met l y ws rm (va_Pc (.ref b :: As) (wB G dce H.size M)) (QV G post (wA M H.size)) (QX G px (wA M H.size)) mc ms (wA M H.size)) (cw : CallW R s args own C index y bytes maxL ret9 ws rm mc ms n) (hn : As.length = n) (hsz : ls.size = nL) (hst : st0 = As.reverse ++ .ref b :: rest) (hW9 : (rest.map fun v => v.category).sum ≤ 8) (hdg : decode cc pc = .ok (.invokevirtual index, 3)) (hcl : cells + mc ≤ R.cells) (hsl : slots + ms ≤ R.slots)
    (kx : ∀ (E : String) (ce : Cell) (q9 : Addr) (M1 : gM) (H1 : Heap) (locs1 : List Loc), px E M1 → wd G A M1 H1 → va_S A s.heap H1 locs1 → H.size ≤ H1.size → (∀ q : Nat, q < H.size → ¬ wA M H.size q → H1[q]? = H[q]?) → H1[q9]? = some ce → ce.vm = .none → s.vm.findClass E = some ce.cls → vx_W p l e R s m args below meth c H1 locs1 (cells + mc) (slots + ms) Q (F0 m pc ls rest) q9)
    (kk : ∀ (M1 : gM) (H1 : Heap) (locs1 : List Loc), post M1 → wd G A M1 H1 → va_S A s.heap H1 locs1 → H.size ≤ H1.size → (∀ q : Nat, q < H.size → ¬ wA M H.size q → H1[q]? = H[q]?) → W p l e R s m args below meth c H1 locs1 (cells + mc) (slots + ms) Q (F0 m (pc + 3) ls rest)) : W p l e R s m args below meth c H locs cells slots Q (F0 m pc ls st0) := by
  obtain ⟨ws0, hP, hD, hM0⟩ := id hw
  obtain ⟨k0, hk0⟩ := List.getElem?_of_mem ((hM0 b _).mp he)
  have hf9 := hw.free hS hA
  exact vx_callv (vx_runV (As := As) (rest := rest) ⟨X.1, X.2.1, X.2.2.2.2.2.2, X.2.2.2.2.1, X.2.2.2.1⟩ hM cw ⟨wB_blind, va_recv hK hP hc hk0, fun U hU hW => ⟨rfl, wB_at hK hw hZ hS hA hU hW⟩⟩ rfl hn hsz hst (by simpa [JFrame.monitorRoom] using hW9) hdg ⟨hcl, hsl⟩) hS (fun q _ h => hf9 q h) hf9 (fun q _ h => hf9 q h) (fun E ce q9 M1 t H1 locs1 ht hvm _ hB hz hk hS1 hce hcv hcl9 => kx E ce q9 M1 H1 locs1 hB.1 (by have h9 := hB.2.1; rw [ht] at h9; exact h9.weaken (fun q e hq => hf9 q (h9.in hq))) hS1 hz hk hce hcv hcl9) (fun M1 t H1 locs1 ht hvm hp hB hz hk hS1 => kk M1 H1 locs1 hp (by have h9 := hB.1; rw [ht] at h9; exact h9.weaken (fun q e hq => hf9 q (h9.in hq))) hS1 hz hk)
theorem x_callSv (X : cX p s m meth c cc nL ret Ts own args) {dce : Nat} {y : MethodName} {bytes : ByteArray} {maxL mc ms n index : Nat} {ret9 : Option FieldType} {ws : List Cond} {rm : Room} {As : List Value}  {post : gM → Prop} {px : String → gM → Prop} (hK : wK G s) (hw : wd G A M H) (hZ : wZ dce A s s.heap) (hS : va_S A s.heap H locs) (hA : ∀ q : Nat, s.heap.size ≤ q → A q) (hM : vx_Met l y ws rm (va_Pc (As) (wB G dce H.size M)) (QV G post (wA M H.size)) (QX G px (wA M H.size)) mc ms (wA M H.size)) (cw : CallB R s args own index y bytes maxL ret9 ws rm mc ms n ∧ (Cond.static y).before args s = true) (hn : As.length = n) (hsz : ls.size = nL) (hst : st0 = As.reverse ++ rest) (hW9 : (rest.map fun v => v.category).sum ≤ 8) (hdg : decode cc pc = .ok (.invokestatic index, 3)) (hcl : cells + mc ≤ R.cells) (hsl : slots + ms ≤ R.slots)
    (kx : ∀ (E : String) (ce : Cell) (q9 : Addr) (M1 : gM) (H1 : Heap) (locs1 : List Loc), px E M1 → wd G A M1 H1 → va_S A s.heap H1 locs1 → H.size ≤ H1.size → (∀ q : Nat, q < H.size → ¬ wA M H.size q → H1[q]? = H[q]?) → H1[q9]? = some ce → ce.vm = .none → s.vm.findClass E = some ce.cls → vx_W p l e R s m args below meth c H1 locs1 (cells + mc) (slots + ms) Q (F0 m pc ls rest) q9)
    (kk : ∀ (M1 : gM) (H1 : Heap) (locs1 : List Loc), post M1 → wd G A M1 H1 → va_S A s.heap H1 locs1 → H.size ≤ H1.size → (∀ q : Nat, q < H.size → ¬ wA M H.size q → H1[q]? = H[q]?) → W p l e R s m args below meth c H1 locs1 (cells + mc) (slots + ms) Q (F0 m (pc + 3) ls rest)) : W p l e R s m args below meth c H locs cells slots Q (F0 m pc ls st0) := by
  have hf9 := hw.free hS hA
  exact vx_callv (vx_runS (As := As) (rest := rest) ⟨X.1, X.2.1, X.2.2.2.2.2.2, X.2.2.2.2.1, X.2.2.2.1⟩ hM cw ⟨wB_blind, fun U hU hW => ⟨rfl, wB_at hK hw hZ hS hA hU hW⟩⟩ rfl hn hsz hst (by simpa [JFrame.monitorRoom] using hW9) hdg ⟨hcl, hsl⟩) hS (fun q _ h => hf9 q h) hf9 (fun q _ h => hf9 q h) (fun E ce q9 M1 t H1 locs1 ht hvm _ hB hz hk hS1 hce hcv hcl9 => kx E ce q9 M1 H1 locs1 hB.1 (by have h9 := hB.2.1; rw [ht] at h9; exact h9.weaken (fun q e hq => hf9 q (h9.in hq))) hS1 hz hk hce hcv hcl9) (fun M1 t H1 locs1 ht hvm hp hB hz hk hS1 => kk M1 H1 locs1 hp (by have h9 := hB.1; rw [ht] at h9; exact h9.weaken (fun q e hq => hf9 q (h9.in hq))) hS1 hz hk)
theorem x_callVr (X : cX p s m meth c cc nL ret Ts own args) {dce : Nat} {y : MethodName} {bytes : ByteArray} {maxL mc ms n index : Nat} {ret9 : Option FieldType} {ws : List Cond} {rm : Room} {As : List Value} {b ci N9 : Nat} {C : String} {T9 : u_T} {fs9 : List Value} (hc : vwCl[ci]? = some (C, T9, N9)) (he : M b = some (.inr (ci, fs9))) {post : Nat → gM → Prop} {px : String → gM → Prop} (hK : wK G s) (hw : wd G A M H) (hZ : wZ dce A s s.heap) (hS : va_S A s.heap H locs) (hA : ∀ q : Nat, s.heap.size ≤ q → A q) (hM : vx_Met l y ws rm (va_Pc (.ref b :: As) (wB G dce H.size M)) (QR G post (wA M H.size)) (QX G px (wA M H.size)) mc ms (wA M H.size)) (cw : CallW R s args own C index y bytes maxL ret9 ws rm mc ms n) (hn : As.length = n) (hsz : ls.size = nL) (hst : st0 = As.reverse ++ .ref b :: rest) (hW9 : (rest.map fun v => v.category).sum ≤ 8) (hdg : decode cc pc = .ok (.invokevirtual index, 3)) (hcl : cells + mc ≤ R.cells) (hsl : slots + ms ≤ R.slots)
    (kx : ∀ (E : String) (ce : Cell) (q9 : Addr) (M1 : gM) (H1 : Heap) (locs1 : List Loc), px E M1 → wd G A M1 H1 → va_S A s.heap H1 locs1 → H.size ≤ H1.size → (∀ q : Nat, q < H.size → ¬ wA M H.size q → H1[q]? = H[q]?) → H1[q9]? = some ce → ce.vm = .none → s.vm.findClass E = some ce.cls → vx_W p l e R s m args below meth c H1 locs1 (cells + mc) (slots + ms) Q (F0 m pc ls rest) q9)
    (kk : ∀ (r : Nat) (M1 : gM) (H1 : Heap) (locs1 : List Loc), post r M1 → wd G A M1 H1 → va_S A s.heap H1 locs1 → H.size ≤ H1.size → (∀ q : Nat, q < H.size → ¬ wA M H.size q → H1[q]? = H[q]?) → W p l e R s m args below meth c H1 locs1 (cells + mc) (slots + ms) Q (F0 m (pc + 3) ls (.ref r :: rest))) : W p l e R s m args below meth c H locs cells slots Q (F0 m pc ls st0) := by
  obtain ⟨ws0, hP, hD, hM0⟩ := id hw
  obtain ⟨k0, hk0⟩ := List.getElem?_of_mem ((hM0 b _).mp he)
  have hf9 := hw.free hS hA
  exact x_callr (vx_runV (As := As) (rest := rest) ⟨X.1, X.2.1, X.2.2.2.2.2.2, X.2.2.2.2.1, X.2.2.2.1⟩ hM cw ⟨wB_blind, va_recv hK hP hc hk0, fun U hU hW => ⟨rfl, wB_at hK hw hZ hS hA hU hW⟩⟩ rfl hn hsz hst (by simpa [JFrame.monitorRoom] using hW9) hdg ⟨hcl, hsl⟩) hS (fun q _ h => hf9 q h) hf9 (fun q _ h => hf9 q h) (fun E ce q9 M1 t H1 locs1 ht hvm _ hB hz hk hS1 hce hcv hcl9 => kx E ce q9 M1 H1 locs1 hB.1 (by have h9 := hB.2.1; rw [ht] at h9; exact h9.weaken (fun q e hq => hf9 q (h9.in hq))) hS1 hz hk hce hcv hcl9) (fun M1 r t H1 locs1 ht hvm hp hB hz hk hS1 => kk r M1 H1 locs1 hB.1 (by have h9 := hB.2.1; rw [ht] at h9; exact h9.weaken (fun q e hq => hf9 q (h9.in hq))) hS1 hz hk)
theorem x_callSr (X : cX p s m meth c cc nL ret Ts own args) {dce : Nat} {y : MethodName} {bytes : ByteArray} {maxL mc ms n index : Nat} {ret9 : Option FieldType} {ws : List Cond} {rm : Room} {As : List Value}  {post : Nat → gM → Prop} {px : String → gM → Prop} (hK : wK G s) (hw : wd G A M H) (hZ : wZ dce A s s.heap) (hS : va_S A s.heap H locs) (hA : ∀ q : Nat, s.heap.size ≤ q → A q) (hM : vx_Met l y ws rm (va_Pc (As) (wB G dce H.size M)) (QR G post (wA M H.size)) (QX G px (wA M H.size)) mc ms (wA M H.size)) (cw : CallB R s args own index y bytes maxL ret9 ws rm mc ms n ∧ (Cond.static y).before args s = true) (hn : As.length = n) (hsz : ls.size = nL) (hst : st0 = As.reverse ++ rest) (hW9 : (rest.map fun v => v.category).sum ≤ 8) (hdg : decode cc pc = .ok (.invokestatic index, 3)) (hcl : cells + mc ≤ R.cells) (hsl : slots + ms ≤ R.slots)
    (kx : ∀ (E : String) (ce : Cell) (q9 : Addr) (M1 : gM) (H1 : Heap) (locs1 : List Loc), px E M1 → wd G A M1 H1 → va_S A s.heap H1 locs1 → H.size ≤ H1.size → (∀ q : Nat, q < H.size → ¬ wA M H.size q → H1[q]? = H[q]?) → H1[q9]? = some ce → ce.vm = .none → s.vm.findClass E = some ce.cls → vx_W p l e R s m args below meth c H1 locs1 (cells + mc) (slots + ms) Q (F0 m pc ls rest) q9)
    (kk : ∀ (r : Nat) (M1 : gM) (H1 : Heap) (locs1 : List Loc), post r M1 → wd G A M1 H1 → va_S A s.heap H1 locs1 → H.size ≤ H1.size → (∀ q : Nat, q < H.size → ¬ wA M H.size q → H1[q]? = H[q]?) → W p l e R s m args below meth c H1 locs1 (cells + mc) (slots + ms) Q (F0 m (pc + 3) ls (.ref r :: rest))) : W p l e R s m args below meth c H locs cells slots Q (F0 m pc ls st0) := by
  have hf9 := hw.free hS hA
  exact x_callr (vx_runS (As := As) (rest := rest) ⟨X.1, X.2.1, X.2.2.2.2.2.2, X.2.2.2.2.1, X.2.2.2.1⟩ hM cw ⟨wB_blind, fun U hU hW => ⟨rfl, wB_at hK hw hZ hS hA hU hW⟩⟩ rfl hn hsz hst (by simpa [JFrame.monitorRoom] using hW9) hdg ⟨hcl, hsl⟩) hS (fun q _ h => hf9 q h) hf9 (fun q _ h => hf9 q h) (fun E ce q9 M1 t H1 locs1 ht hvm _ hB hz hk hS1 hce hcv hcl9 => kx E ce q9 M1 H1 locs1 hB.1 (by have h9 := hB.2.1; rw [ht] at h9; exact h9.weaken (fun q e hq => hf9 q (h9.in hq))) hS1 hz hk hce hcv hcl9) (fun M1 r t H1 locs1 ht hvm hp hB hz hk hS1 => kk r M1 H1 locs1 hB.1 (by have h9 := hB.2.1; rw [ht] at h9; exact h9.weaken (fun q e hq => hf9 q (h9.in hq))) hS1 hz hk)
theorem m_out {mc ms : Nat} (X : cX p s m meth c cc nL ret Ts own args) (hno : ∀ x ∈ c.exceptionTable.toList, False) {Qc : Array Value → State → Outcome → State → Prop} {px : String → gM → Prop} {E : String} {ce : Cell} {q9 : Addr} (hK : wK G s) (hw : wd G A M H) (hS : va_S A s.heap H locs) (hce : H[q9]? = some ce) (hcv : ce.vm = .none) (hcl9 : s.vm.findClass E = some ce.cls) (hc : cells ≤ mc) (hs : slots ≤ ms) (hp : px E M) : vx_W p l e R s m args below meth c H locs cells slots (vx_MQ below Qc (QX G px A) args s mc ms A) (F0 m pc ls rest) q9 :=
  vx_out (fun x h => (hno x h).elim) X.2.2.2.2.2.1 hce hcv hcl9 (fun t ht hvm => ⟨M, trivial, ⟨hp, by rw [ht]; exact hw, va_K.moved hvm hK⟩, hS.F ht⟩) hS.2.2 hc hs
end ROWS2
end
section
set_option maxHeartbeats 4000000 in
set_option maxRecDepth 100000 in
/-- Entity.isLive -/
theorem c_X0_isLive (l : Launch) (G : gG) (dce sz : Nat) (M : gM) (h : Nat) (v : vE) (hv : M h = some (eE v)) : mI l yX0_isLive wsX0_isLive ({ frames := 0, cells := 0, slots := 0, locals := 0 }) G dce sz M [.ref h] (fun r M' => r = bI (fLive v) ∧ M' = M) (0) (0) := by
  obtain ⟨b1, b2, b3, nm, rf, sn, sr, sv⟩ := v
  have hv : M h = some (.inr (1, [.int (bI b1), .int (bI b2), .int (bI b3), .int nm, .int rf, .int sn, .int sr, .int sv])) := hv
  refine wMet (Qc := QI G _) (cc := cX0_isLive) (maxL := 1) (ret := (some .boolean)) (by decide) rfl (Nat.le_of_ble_eq_true rfl) ?_
  intro p e s m below meth c A ls X hnm hw hK hZ hA hS hsz eA hl
  obtain ⟨hx, hb, hr, hts, hown, hlk, hml⟩ := id X
  have hl : lv_has ls 1 [(0, .ref h)] := hl
  have iX0 : ∀ w ∈ wsX00, w ∈ wsX0_isLive := by decide +kernel
  refine lv_aload_n hx hb dX0_isLive_0 rfl (lv_at hl 0 rfl) ?_
  refine m_get X iX0 hK hw hv rfl 0 (by decide) (ref := "ObjectMapper$Entity") (by decide +kernel) (Or.inl rfl) rfl dX0_isLive_1 ?_
  refine lv_if_eq (tgt := 18) hx hb dX0_isLive_4 (by decide) (fun c_4 => ?_) (fun c_4 => ?_)
  · refine lv_iconst (v := 0) hx hb dX0_isLive_18 (by decide) ?_
    exact m_zret X (by decide) hK hw hS (by refine ⟨?_, rfl⟩; simp_all [fLive, bI, bI_0]) (by omega) (by omega) dX0_isLive_19
  · refine lv_aload_n hx hb dX0_isLive_7 rfl (lv_at hl 0 rfl) ?_
    refine m_get X iX0 hK hw hv rfl 1 (by decide) (ref := "ObjectMapper$Entity") (by decide +kernel) (Or.inl rfl) rfl dX0_isLive_8 ?_
    refine lv_if_ne (tgt := 18) hx hb dX0_isLive_11 (by decide) (fun c_11 => ?_) (fun c_11 => ?_)
    · refine lv_iconst (v := 0) hx hb dX0_isLive_18 (by decide) ?_
      exact m_zret X (by decide) hK hw hS (by refine ⟨?_, rfl⟩; simp_all [fLive, bI, bI_0]) (by omega) (by omega) dX0_isLive_19
    · refine lv_iconst (v := 1) hx hb dX0_isLive_14 (by decide) ?_
      refine lv_goto (tgt := 19) hx hb dX0_isLive_15 (by decide) ?_
      exact m_zret X (by decide) hK hw hS (by refine ⟨?_, rfl⟩; simp_all [fLive, bI, bI_0]) (by omega) (by omega) dX0_isLive_19
set_option maxHeartbeats 4000000 in
set_option maxRecDepth 100000 in
/-- Entity.isNew -/
theorem c_X0_isNew (l : Launch) (G : gG) (dce sz : Nat) (M : gM) (h : Nat) (v : vE) (hv : M h = some (eE v)) : mI l yX0_isNew wsX0_isNew ({ frames := 0, cells := 0, slots := 0, locals := 0 }) G dce sz M [.ref h] (fun r M' => r = bI (fNew v) ∧ M' = M) (0) (0) := by
  obtain ⟨b1, b2, b3, nm, rf, sn, sr, sv⟩ := v
  have hv : M h = some (.inr (1, [.int (bI b1), .int (bI b2), .int (bI b3), .int nm, .int rf, .int sn, .int sr, .int sv])) := hv
  refine wMet (Qc := QI G _) (cc := cX0_isNew) (maxL := 1) (ret := (some .boolean)) (by decide) rfl (Nat.le_of_ble_eq_true rfl) ?_
  intro p e s m below meth c A ls X hnm hw hK hZ hA hS hsz eA hl
  obtain ⟨hx, hb, hr, hts, hown, hlk, hml⟩ := id X
  have hl : lv_has ls 1 [(0, .ref h)] := hl
  have iX0 : ∀ w ∈ wsX00, w ∈ wsX0_isNew := by decide +kernel
  refine lv_aload_n hx hb dX0_isNew_0 rfl (lv_at hl 0 rfl) ?_
  refine m_get X iX0 hK hw hv rfl 0 (by decide) (ref := "ObjectMapper$Entity") (by decide +kernel) (Or.inl rfl) rfl dX0_isNew_1 ?_
  refine lv_if_eq (tgt := 18) hx hb dX0_isNew_4 (by decide) (fun c_4 => ?_) (fun c_4 => ?_)
  · refine lv_iconst (v := 0) hx hb dX0_isNew_18 (by decide) ?_
    exact m_zret X (by decide) hK hw hS (by refine ⟨?_, rfl⟩; simp_all [fNew, bI, bI_0]) (by omega) (by omega) dX0_isNew_19
  · refine lv_aload_n hx hb dX0_isNew_7 rfl (lv_at hl 0 rfl) ?_
    refine m_get X iX0 hK hw hv rfl 2 (by decide) (ref := "ObjectMapper$Entity") (by decide +kernel) (Or.inl rfl) rfl dX0_isNew_8 ?_
    refine lv_if_ne (tgt := 18) hx hb dX0_isNew_11 (by decide) (fun c_11 => ?_) (fun c_11 => ?_)
    · refine lv_iconst (v := 0) hx hb dX0_isNew_18 (by decide) ?_
      exact m_zret X (by decide) hK hw hS (by refine ⟨?_, rfl⟩; simp_all [fNew, bI, bI_0]) (by omega) (by omega) dX0_isNew_19
    · refine lv_iconst (v := 1) hx hb dX0_isNew_14 (by decide) ?_
      refine lv_goto (tgt := 19) hx hb dX0_isNew_15 (by decide) ?_
      exact m_zret X (by decide) hK hw hS (by refine ⟨?_, rfl⟩; simp_all [fNew, bI, bI_0]) (by omega) (by omega) dX0_isNew_19
set_option maxHeartbeats 4000000 in
set_option maxRecDepth 100000 in
/-- Entity.isChanged -/
theorem c_X0_isChanged (l : Launch) (G : gG) (dce sz : Nat) (M : gM) (h : Nat) (v : vE) (hv : M h = some (eE v)) : mI l yX0_isChanged wsX0_isChanged ({ frames := 0, cells := 0, slots := 0, locals := 0 }) G dce sz M [.ref h] (fun r M' => r = bI (fChg v) ∧ M' = M) (0) (0) := by
  obtain ⟨b1, b2, b3, nm, rf, sn, sr, sv⟩ := v
  have hv : M h = some (.inr (1, [.int (bI b1), .int (bI b2), .int (bI b3), .int nm, .int rf, .int sn, .int sr, .int sv])) := hv
  refine wMet (Qc := QI G _) (cc := cX0_isChanged) (maxL := 1) (ret := (some .boolean)) (by decide) rfl (Nat.le_of_ble_eq_true rfl) ?_
  intro p e s m below meth c A ls X hnm hw hK hZ hA hS hsz eA hl
  obtain ⟨hx, hb, hr, hts, hown, hlk, hml⟩ := id X
  have hl : lv_has ls 1 [(0, .ref h)] := hl
  have iX0 : ∀ w ∈ wsX00, w ∈ wsX0_isChanged := by decide +kernel
  refine lv_aload_n hx hb dX0_isChanged_0 rfl (lv_at hl 0 rfl) ?_
  refine m_get X iX0 hK hw hv rfl 2 (by decide) (ref := "ObjectMapper$Entity") (by decide +kernel) (Or.inl rfl) rfl dX0_isChanged_1 ?_
  refine lv_if_eq (tgt := 33) hx hb dX0_isChanged_4 (by decide) (fun c_4 => ?_) (fun c_4 => ?_)
  · refine lv_iconst (v := 0) hx hb dX0_isChanged_33 (by decide) ?_
    exact m_zret X (by decide) hK hw hS (by refine ⟨?_, rfl⟩; simp_all [fChg, bI, bI_0]) (by omega) (by omega) dX0_isChanged_34
  · refine lv_aload_n hx hb dX0_isChanged_7 rfl (lv_at hl 0 rfl) ?_
    refine m_get X iX0 hK hw hv rfl 3 (by decide) (ref := "ObjectMapper$Entity") (by decide +kernel) (Or.inl rfl) rfl dX0_isChanged_8 ?_
    refine lv_aload_n hx hb dX0_isChanged_11 rfl (lv_at hl 0 rfl) ?_
    refine m_get X iX0 hK hw hv rfl 5 (by decide) (ref := "ObjectMapper$Entity") (by decide +kernel) (Or.inl rfl) rfl dX0_isChanged_12 ?_
    refine lv_icmp_ne (tgt := 29) hx hb dX0_isChanged_15 (by decide) (fun c_15 => ?_) (fun c_15 => ?_)
    · refine lv_iconst (v := 1) hx hb dX0_isChanged_29 (by decide) ?_
      refine lv_goto (tgt := 34) hx hb dX0_isChanged_30 (by decide) ?_
      exact m_zret X (by decide) hK hw hS (by refine ⟨?_, rfl⟩; simp_all [fChg, bI, bI_0]) (by omega) (by omega) dX0_isChanged_34
    · refine lv_aload_n hx hb dX0_isChanged_18 rfl (lv_at hl 0 rfl) ?_
      refine m_get X iX0 hK hw hv rfl 4 (by decide) (ref := "ObjectMapper$Entity") (by decide +kernel) (Or.inl rfl) rfl dX0_isChanged_19 ?_
      refine lv_aload_n hx hb dX0_isChanged_22 rfl (lv_at hl 0 rfl) ?_
      refine m_get X iX0 hK hw hv rfl 6 (by decide) (ref := "ObjectMapper$Entity") (by decide +kernel) (Or.inl rfl) rfl dX0_isChanged_23 ?_
      refine lv_icmp_eq (tgt := 33) hx hb dX0_isChanged_26 (by decide) (fun c_26 => ?_) (fun c_26 => ?_)
      · refine lv_iconst (v := 0) hx hb dX0_isChanged_33 (by decide) ?_
        exact m_zret X (by decide) hK hw hS (by refine ⟨?_, rfl⟩; simp_all [fChg, bI, bI_0]) (by omega) (by omega) dX0_isChanged_34
      · refine lv_iconst (v := 1) hx hb dX0_isChanged_29 (by decide) ?_
        refine lv_goto (tgt := 34) hx hb dX0_isChanged_30 (by decide) ?_
        exact m_zret X (by decide) hK hw hS (by refine ⟨?_, rfl⟩; simp_all [fChg, bI, bI_0]) (by omega) (by omega) dX0_isChanged_34
set_option maxHeartbeats 4000000 in
set_option maxRecDepth 100000 in
/-- Entity.isLiveAndRefersTo -/
theorem c_X0_isLiveAndRefersTo (l : Launch) (G : gG) (dce sz : Nat) (M : gM) (h : Nat) (v : vE) (hv : M h = some (eE v)) (t : Int32) : mI l yX0_isLiveAndRefersTo wsX0_isLiveAndRefersTo ({ frames := 1, cells := 0, slots := 0, locals := 20 }) G dce sz M [.ref h, .int t] (fun r M' => r = bI (fRefs v t) ∧ M' = M) (0) (0) := by
  obtain ⟨b1, b2, b3, nm, rf, sn, sr, sv⟩ := v
  have hv : M h = some (.inr (1, [.int (bI b1), .int (bI b2), .int (bI b3), .int nm, .int rf, .int sn, .int sr, .int sv])) := hv
  refine wMet (Qc := QI G _) (cc := cX0_isLiveAndRefersTo) (maxL := 2) (ret := (some .boolean)) (by decide) rfl (Nat.le_of_ble_eq_true rfl) ?_
  intro p e s m below meth c A ls X hnm hw hK hZ hA hS hsz eA hl
  obtain ⟨hx, hb, hr, hts, hown, hlk, hml⟩ := id X
  have hl : lv_has ls 2 [(0, .ref h), (1, .int t)] := hl
  have iX0 : ∀ w ∈ wsX00, w ∈ wsX0_isLiveAndRefersTo := by decide +kernel
  refine lv_aload_n hx hb dX0_isLiveAndRefersTo_0 rfl (lv_at hl 0 rfl) ?_
  refine m_callVi X (ci := 1) rfl hv hK hw hZ hS hA (As := []) (rest := []) (c_X0_isLive l G dce _ M h (b1, b2, b3, nm, rf, sn, sr, sv) hv) (cwV 0 hts gX0_isLiveAndRefersTo_X0_isLive rfl rfl rfl (by decide +kernel) ⟨Nat.le_of_ble_eq_true rfl, Nat.le_of_ble_eq_true rfl⟩) rfl hl.1 rfl (Nat.le_of_ble_eq_true rfl) dX0_isLiveAndRefersTo_1 (Nat.le_of_ble_eq_true rfl) (Nat.le_of_ble_eq_true rfl) (fun r2 M1 H locs hp hw hS hz hk => ?_)
  rw [hp.2] at hw
  have er2 := hp.1
  subst er2
  refine lv_if_eq (tgt := 19) hx hb dX0_isLiveAndRefersTo_4 (by decide) (fun c_4 => ?_) (fun c_4 => ?_)
  · refine lv_iconst (v := 0) hx hb dX0_isLiveAndRefersTo_19 (by decide) ?_
    exact m_zret X (by decide) hK hw hS (by refine ⟨?_, rfl⟩; simp_all [fRefs, fLive, bI, bI_0]) (by omega) (by omega) dX0_isLiveAndRefersTo_20
  · refine lv_aload_n hx hb dX0_isLiveAndRefersTo_7 rfl (lv_at hl 0 rfl) ?_
    refine m_get X iX0 hK hw hv rfl 4 (by decide) (ref := "ObjectMapper$Entity") (by decide +kernel) (Or.inl rfl) rfl dX0_isLiveAndRefersTo_8 ?_
    refine lv_iload_n hx hb dX0_isLiveAndRefersTo_11 rfl (lv_at hl 1 rfl) ?_
    refine lv_icmp_ne (tgt := 19) hx hb dX0_isLiveAndRefersTo_12 (by decide) (fun c_12 => ?_) (fun c_12 => ?_)
    · refine lv_iconst (v := 0) hx hb dX0_isLiveAndRefersTo_19 (by decide) ?_
      exact m_zret X (by decide) hK hw hS (by refine ⟨?_, rfl⟩; simp_all [fRefs, fLive, bI, bI_0]) (by omega) (by omega) dX0_isLiveAndRefersTo_20
    · refine lv_iconst (v := 1) hx hb dX0_isLiveAndRefersTo_15 (by decide) ?_
      refine lv_goto (tgt := 20) hx hb dX0_isLiveAndRefersTo_16 (by decide) ?_
      exact m_zret X (by decide) hK hw hS (by refine ⟨?_, rfl⟩; simp_all [fRefs, fLive, bI, bI_0]) (by omega) (by omega) dX0_isLiveAndRefersTo_20
set_option maxHeartbeats 4000000 in
set_option maxRecDepth 100000 in
/-- Entity.clashesWith -/
theorem c_X0_clashesWith (l : Launch) (G : gG) (dce sz : Nat) (M : gM) (h : Nat) (v : vE) (hv : M h = some (eE v)) (q : Nat) (w : vR) (hr0 : M q = some (eR w)) : mI l yX0_clashesWith wsX0_clashesWith ({ frames := 1, cells := 0, slots := 0, locals := 20 }) G dce sz M [.ref h, .ref q] (fun r M' => r = bI (fClash v w) ∧ M' = M) (0) (0) := by
  obtain ⟨b1, b2, b3, nm, rf, sn, sr, sv⟩ := v
  have hv : M h = some (.inr (1, [.int (bI b1), .int (bI b2), .int (bI b3), .int nm, .int rf, .int sn, .int sr, .int sv])) := hv
  obtain ⟨rb, rn, rr, rv⟩ := w
  have hw0 : M q = some (.inr (4, [.int (bI rb), .int rn, .int rr, .int rv])) := hr0
  refine wMet (Qc := QI G _) (cc := cX0_clashesWith) (maxL := 2) (ret := (some .boolean)) (by decide) rfl (Nat.le_of_ble_eq_true rfl) ?_
  intro p e s m below meth c A ls X hnm hw hK hZ hA hS hsz eA hl
  obtain ⟨hx, hb, hr, hts, hown, hlk, hml⟩ := id X
  have hl : lv_has ls 2 [(0, .ref h), (1, .ref q)] := hl
  have iX0 : ∀ w ∈ wsX00, w ∈ wsX0_clashesWith := by decide +kernel
  have iX3 : ∀ w ∈ wsX30, w ∈ wsX0_clashesWith := by decide +kernel
  refine lv_aload_n hx hb dX0_clashesWith_0 rfl (lv_at hl 0 rfl) ?_
  refine m_callVi X (ci := 1) rfl hv hK hw hZ hS hA (As := []) (rest := []) (c_X0_isChanged l G dce _ M h (b1, b2, b3, nm, rf, sn, sr, sv) hv) (cwV 0 hts gX0_clashesWith_X0_isChanged rfl rfl rfl (by decide +kernel) ⟨Nat.le_of_ble_eq_true rfl, Nat.le_of_ble_eq_true rfl⟩) rfl hl.1 rfl (Nat.le_of_ble_eq_true rfl) dX0_clashesWith_1 (Nat.le_of_ble_eq_true rfl) (Nat.le_of_ble_eq_true rfl) (fun r2 M1 H locs hp hw hS hz hk => ?_)
  rw [hp.2] at hw
  have er2 := hp.1
  subst er2
  refine lv_if_ne (tgt := 14) hx hb dX0_clashesWith_4 (by decide) (fun c_4 => ?_) (fun c_4 => ?_)
  · refine lv_aload_n hx hb dX0_clashesWith_14 rfl (lv_at hl 1 rfl) ?_
    refine m_get X iX3 hK hw hw0 rfl 0 (by decide) (ref := "ObjectMapper$Row") (by decide +kernel) (Or.inl rfl) rfl dX0_clashesWith_15 ?_
    refine lv_if_eq (tgt := 32) hx hb dX0_clashesWith_18 (by decide) (fun c_18 => ?_) (fun c_18 => ?_)
    · refine lv_iconst (v := 1) hx hb dX0_clashesWith_32 (by decide) ?_
      refine lv_goto (tgt := 37) hx hb dX0_clashesWith_33 (by decide) ?_
      exact m_zret X (by decide) hK hw hS (by refine ⟨?_, rfl⟩; simp_all [fClash, fChg, bI, bI_0]) (by omega) (by omega) dX0_clashesWith_37
    · refine lv_aload_n hx hb dX0_clashesWith_21 rfl (lv_at hl 1 rfl) ?_
      refine m_get X iX3 hK hw hw0 rfl 3 (by decide) (ref := "ObjectMapper$Row") (by decide +kernel) (Or.inl rfl) rfl dX0_clashesWith_22 ?_
      refine lv_aload_n hx hb dX0_clashesWith_25 rfl (lv_at hl 0 rfl) ?_
      refine m_get X iX0 hK hw hv rfl 7 (by decide) (ref := "ObjectMapper$Entity") (by decide +kernel) (Or.inl rfl) rfl dX0_clashesWith_26 ?_
      refine lv_icmp_eq (tgt := 36) hx hb dX0_clashesWith_29 (by decide) (fun c_29 => ?_) (fun c_29 => ?_)
      · refine lv_iconst (v := 0) hx hb dX0_clashesWith_36 (by decide) ?_
        exact m_zret X (by decide) hK hw hS (by refine ⟨?_, rfl⟩; simp_all [fClash, fChg, bI, bI_0]) (by omega) (by omega) dX0_clashesWith_37
      · refine lv_iconst (v := 1) hx hb dX0_clashesWith_32 (by decide) ?_
        refine lv_goto (tgt := 37) hx hb dX0_clashesWith_33 (by decide) ?_
        exact m_zret X (by decide) hK hw hS (by refine ⟨?_, rfl⟩; simp_all [fClash, fChg, bI, bI_0]) (by omega) (by omega) dX0_clashesWith_37
  · refine lv_aload_n hx hb dX0_clashesWith_7 rfl (lv_at hl 0 rfl) ?_
    refine m_get X iX0 hK hw hv rfl 1 (by decide) (ref := "ObjectMapper$Entity") (by decide +kernel) (Or.inl rfl) rfl dX0_clashesWith_8 ?_
    refine lv_if_eq (tgt := 36) hx hb dX0_clashesWith_11 (by decide) (fun c_11 => ?_) (fun c_11 => ?_)
    · refine lv_iconst (v := 0) hx hb dX0_clashesWith_36 (by decide) ?_
      exact m_zret X (by decide) hK hw hS (by refine ⟨?_, rfl⟩; simp_all [fClash, fChg, bI, bI_0]) (by omega) (by omega) dX0_clashesWith_37
    · refine lv_aload_n hx hb dX0_clashesWith_14 rfl (lv_at hl 1 rfl) ?_
      refine m_get X iX3 hK hw hw0 rfl 0 (by decide) (ref := "ObjectMapper$Row") (by decide +kernel) (Or.inl rfl) rfl dX0_clashesWith_15 ?_
      refine lv_if_eq (tgt := 32) hx hb dX0_clashesWith_18 (by decide) (fun c_18 => ?_) (fun c_18 => ?_)
      · refine lv_iconst (v := 1) hx hb dX0_clashesWith_32 (by decide) ?_
        refine lv_goto (tgt := 37) hx hb dX0_clashesWith_33 (by decide) ?_
        exact m_zret X (by decide) hK hw hS (by refine ⟨?_, rfl⟩; simp_all [fClash, fChg, bI, bI_0]) (by omega) (by omega) dX0_clashesWith_37
      · refine lv_aload_n hx hb dX0_clashesWith_21 rfl (lv_at hl 1 rfl) ?_
        refine m_get X iX3 hK hw hw0 rfl 3 (by decide) (ref := "ObjectMapper$Row") (by decide +kernel) (Or.inl rfl) rfl dX0_clashesWith_22 ?_
        refine lv_aload_n hx hb dX0_clashesWith_25 rfl (lv_at hl 0 rfl) ?_
        refine m_get X iX0 hK hw hv rfl 7 (by decide) (ref := "ObjectMapper$Entity") (by decide +kernel) (Or.inl rfl) rfl dX0_clashesWith_26 ?_
        refine lv_icmp_eq (tgt := 36) hx hb dX0_clashesWith_29 (by decide) (fun c_29 => ?_) (fun c_29 => ?_)
        · refine lv_iconst (v := 0) hx hb dX0_clashesWith_36 (by decide) ?_
          exact m_zret X (by decide) hK hw hS (by refine ⟨?_, rfl⟩; simp_all [fClash, fChg, bI, bI_0]) (by omega) (by omega) dX0_clashesWith_37
        · refine lv_iconst (v := 1) hx hb dX0_clashesWith_32 (by decide) ?_
          refine lv_goto (tgt := 37) hx hb dX0_clashesWith_33 (by decide) ?_
          exact m_zret X (by decide) hK hw hS (by refine ⟨?_, rfl⟩; simp_all [fClash, fChg, bI, bI_0]) (by omega) (by omega) dX0_clashesWith_37
set_option maxHeartbeats 4000000 in
set_option maxRecDepth 100000 in
/-- Entity.make -/
theorem c_X0_make (l : Launch) (G : gG) (dce sz : Nat) (M : gM) (h : Nat) (v : vE) (hv : M h = some (eE v)) (x y : Int32) : mV l yX0_make wsX0_make ({ frames := 0, cells := 0, slots := 0, locals := 0 }) G dce sz M [.ref h, .int x, .int y] (fun M' => M' = mu M h (eE (fMake v x y))) (0) (0) := by
  obtain ⟨b1, b2, b3, nm, rf, sn, sr, sv⟩ := v
  have hv : M h = some (.inr (1, [.int (bI b1), .int (bI b2), .int (bI b3), .int nm, .int rf, .int sn, .int sr, .int sv])) := hv
  refine wMet (Qc := QV G _) (cc := cX0_make) (maxL := 3) (ret := none) (by decide) rfl (Nat.le_of_ble_eq_true rfl) ?_
  intro p e s m below meth c A ls X hnm hw hK hZ hA hS hsz eA hl
  obtain ⟨hx, hb, hr, hts, hown, hlk, hml⟩ := id X
  have hl : lv_has ls 3 [(0, .ref h), (1, .int x), (2, .int y)] := hl
  have iX0 : ∀ w ∈ wsX00, w ∈ wsX0_make := by decide +kernel
  refine lv_aload_n hx hb dX0_make_0 rfl (lv_at hl 0 rfl) ?_
  refine lv_iconst (v := 1) hx hb dX0_make_1 (by decide) ?_
  refine m_put X iX0 tyX0_ok nmX0 hK hw hS hv rfl 0 (by decide) (ref := "ObjectMapper$Entity") (by decide +kernel) (Or.inl rfl) rfl (v := .int 1) (by decide) (by decide) (Nat.le_of_ble_eq_true rfl) (fs1 := [.int 1, .int (bI b2), .int (bI b3), .int nm, .int rf, .int sn, .int sr, .int sv]) rfl dX0_make_2 (fun M1 H locs eM1 hw hS => ?_)
  have k2 : M1 h = some (.inr (1, [.int 1, .int (bI b2), .int (bI b3), .int nm, .int rf, .int sn, .int sr, .int sv])) := by rw [eM1]; exact mu_s _ _ _
  refine lv_aload_n hx hb dX0_make_5 rfl (lv_at hl 0 rfl) ?_
  refine lv_iload_n hx hb dX0_make_6 rfl (lv_at hl 1 rfl) ?_
  refine m_put X iX0 tyX0_ok nmX0 hK hw hS k2 rfl 3 (by decide) (ref := "ObjectMapper$Entity") (by decide +kernel) (Or.inl rfl) rfl (v := .int x) rfl rfl (Nat.le_of_ble_eq_true rfl) (fs1 := [.int 1, .int (bI b2), .int (bI b3), .int x, .int rf, .int sn, .int sr, .int sv]) rfl dX0_make_7 (fun M3 H locs eM3 hw hS => ?_)
  have k4 : M3 h = some (.inr (1, [.int 1, .int (bI b2), .int (bI b3), .int x, .int rf, .int sn, .int sr, .int sv])) := by rw [eM3]; exact mu_s _ _ _
  refine lv_aload_n hx hb dX0_make_10 rfl (lv_at hl 0 rfl) ?_
  refine lv_iload_n hx hb dX0_make_11 rfl (lv_at hl 2 rfl) ?_
  refine m_put X iX0 tyX0_ok nmX0 hK hw hS k4 rfl 4 (by decide) (ref := "ObjectMapper$Entity") (by decide +kernel) (Or.inl rfl) rfl (v := .int y) rfl rfl (Nat.le_of_ble_eq_true rfl) (fs1 := [.int 1, .int (bI b2), .int (bI b3), .int x, .int y, .int sn, .int sr, .int sv]) rfl dX0_make_12 (fun M5 H locs eM5 hw hS => ?_)
  have k6 : M5 h = some (.inr (1, [.int 1, .int (bI b2), .int (bI b3), .int x, .int y, .int sn, .int sr, .int sv])) := by rw [eM5]; exact mu_s _ _ _
  exact m_vret X hK hw hS (by subst_vars; simp only [mu_mu]; rfl) (by omega) (by omega) dX0_make_15
set_option maxHeartbeats 4000000 in
set_option maxRecDepth 100000 in
/-- Entity.forget -/
theorem c_X0_forget (l : Launch) (G : gG) (dce sz : Nat) (M : gM) (h : Nat) (v : vE) (hv : M h = some (eE v)) : mV l yX0_forget wsX0_forget ({ frames := 0, cells := 0, slots := 0, locals := 0 }) G dce sz M [.ref h] (fun M' => M' = mu M h (eE (fForget v))) (0) (0) := by
  obtain ⟨b1, b2, b3, nm, rf, sn, sr, sv⟩ := v
  have hv : M h = some (.inr (1, [.int (bI b1), .int (bI b2), .int (bI b3), .int nm, .int rf, .int sn, .int sr, .int sv])) := hv
  refine wMet (Qc := QV G _) (cc := cX0_forget) (maxL := 1) (ret := none) (by decide) rfl (Nat.le_of_ble_eq_true rfl) ?_
  intro p e s m below meth c A ls X hnm hw hK hZ hA hS hsz eA hl
  obtain ⟨hx, hb, hr, hts, hown, hlk, hml⟩ := id X
  have hl : lv_has ls 1 [(0, .ref h)] := hl
  have iX0 : ∀ w ∈ wsX00, w ∈ wsX0_forget := by decide +kernel
  refine lv_aload_n hx hb dX0_forget_0 rfl (lv_at hl 0 rfl) ?_
  refine lv_iconst (v := 0) hx hb dX0_forget_1 (by decide) ?_
  refine m_put X iX0 tyX0_ok nmX0 hK hw hS hv rfl 0 (by decide) (ref := "ObjectMapper$Entity") (by decide +kernel) (Or.inl rfl) rfl (v := .int 0) (by decide) (by decide) (Nat.le_of_ble_eq_true rfl) (fs1 := [.int 0, .int (bI b2), .int (bI b3), .int nm, .int rf, .int sn, .int sr, .int sv]) rfl dX0_forget_2 (fun M1 H locs eM1 hw hS => ?_)
  have k2 : M1 h = some (.inr (1, [.int 0, .int (bI b2), .int (bI b3), .int nm, .int rf, .int sn, .int sr, .int sv])) := by rw [eM1]; exact mu_s _ _ _
  refine lv_aload_n hx hb dX0_forget_5 rfl (lv_at hl 0 rfl) ?_
  refine lv_iconst (v := 0) hx hb dX0_forget_6 (by decide) ?_
  refine m_put X iX0 tyX0_ok nmX0 hK hw hS k2 rfl 1 (by decide) (ref := "ObjectMapper$Entity") (by decide +kernel) (Or.inl rfl) rfl (v := .int 0) (by decide) (by decide) (Nat.le_of_ble_eq_true rfl) (fs1 := [.int 0, .int 0, .int (bI b3), .int nm, .int rf, .int sn, .int sr, .int sv]) rfl dX0_forget_7 (fun M3 H locs eM3 hw hS => ?_)
  have k4 : M3 h = some (.inr (1, [.int 0, .int 0, .int (bI b3), .int nm, .int rf, .int sn, .int sr, .int sv])) := by rw [eM3]; exact mu_s _ _ _
  refine lv_aload_n hx hb dX0_forget_10 rfl (lv_at hl 0 rfl) ?_
  refine lv_iconst (v := 0) hx hb dX0_forget_11 (by decide) ?_
  refine m_put X iX0 tyX0_ok nmX0 hK hw hS k4 rfl 2 (by decide) (ref := "ObjectMapper$Entity") (by decide +kernel) (Or.inl rfl) rfl (v := .int 0) (by decide) (by decide) (Nat.le_of_ble_eq_true rfl) (fs1 := [.int 0, .int 0, .int 0, .int nm, .int rf, .int sn, .int sr, .int sv]) rfl dX0_forget_12 (fun M5 H locs eM5 hw hS => ?_)
  have k6 : M5 h = some (.inr (1, [.int 0, .int 0, .int 0, .int nm, .int rf, .int sn, .int sr, .int sv])) := by rw [eM5]; exact mu_s _ _ _
  exact m_vret X hK hw hS (by subst_vars; simp only [mu_mu]; rfl) (by omega) (by omega) dX0_forget_15
set_option maxHeartbeats 4000000 in
set_option maxRecDepth 100000 in
/-- Entity.takeSnapshot -/
theorem c_X0_takeSnapshot (l : Launch) (G : gG) (dce sz : Nat) (M : gM) (h : Nat) (v : vE) (hv : M h = some (eE v)) (q : Nat) (w : vR) (hr0 : M q = some (eR w)) : mV l yX0_takeSnapshot wsX0_takeSnapshot ({ frames := 0, cells := 0, slots := 0, locals := 0 }) G dce sz M [.ref h, .ref q] (fun M' => M' = mu M h (eE (fSnap v w))) (0) (0) := by
  obtain ⟨b1, b2, b3, nm, rf, sn, sr, sv⟩ := v
  have hv : M h = some (.inr (1, [.int (bI b1), .int (bI b2), .int (bI b3), .int nm, .int rf, .int sn, .int sr, .int sv])) := hv
  obtain ⟨rb, rn, rr, rv⟩ := w
  have hw0 : M q = some (.inr (4, [.int (bI rb), .int rn, .int rr, .int rv])) := hr0
  refine wMet (Qc := QV G _) (cc := cX0_takeSnapshot) (maxL := 2) (ret := none) (by decide) rfl (Nat.le_of_ble_eq_true rfl) ?_
  intro p e s m below meth c A ls X hnm hw hK hZ hA hS hsz eA hl
  obtain ⟨hx, hb, hr, hts, hown, hlk, hml⟩ := id X
  have hl : lv_has ls 2 [(0, .ref h), (1, .ref q)] := hl
  have iX0 : ∀ w ∈ wsX00, w ∈ wsX0_takeSnapshot := by decide +kernel
  have iX3 : ∀ w ∈ wsX30, w ∈ wsX0_takeSnapshot := by decide +kernel
  refine lv_aload_n hx hb dX0_takeSnapshot_0 rfl (lv_at hl 0 rfl) ?_
  refine lv_iconst (v := 1) hx hb dX0_takeSnapshot_1 (by decide) ?_
  refine m_put X iX0 tyX0_ok nmX0 hK hw hS hv rfl 2 (by decide) (ref := "ObjectMapper$Entity") (by decide +kernel) (Or.inl rfl) rfl (v := .int 1) (by decide) (by decide) (Nat.le_of_ble_eq_true rfl) (fs1 := [.int (bI b1), .int (bI b2), .int 1, .int nm, .int rf, .int sn, .int sr, .int sv]) rfl dX0_takeSnapshot_2 (fun M1 H locs eM1 hw hS => ?_)
  have k2 : M1 h = some (.inr (1, [.int (bI b1), .int (bI b2), .int 1, .int nm, .int rf, .int sn, .int sr, .int sv])) := by rw [eM1]; exact mu_s _ _ _
  have k3 := (congrFun eM1 q).trans (mu_g hw0 (gM_ne hw0 hv (by simp)))
  refine lv_aload_n hx hb dX0_takeSnapshot_5 rfl (lv_at hl 0 rfl) ?_
  refine lv_aload_n hx hb dX0_takeSnapshot_6 rfl (lv_at hl 1 rfl) ?_
  refine m_get X iX3 hK hw k3 rfl 1 (by decide) (ref := "ObjectMapper$Row") (by decide +kernel) (Or.inl rfl) rfl dX0_takeSnapshot_7 ?_
  refine m_put X iX0 tyX0_ok nmX0 hK hw hS k2 rfl 5 (by decide) (ref := "ObjectMapper$Entity") (by decide +kernel) (Or.inl rfl) rfl (v := .int rn) rfl rfl (Nat.le_of_ble_eq_true rfl) (fs1 := [.int (bI b1), .int (bI b2), .int 1, .int nm, .int rf, .int rn, .int sr, .int sv]) rfl dX0_takeSnapshot_10 (fun M4 H locs eM4 hw hS => ?_)
  have k5 : M4 h = some (.inr (1, [.int (bI b1), .int (bI b2), .int 1, .int nm, .int rf, .int rn, .int sr, .int sv])) := by rw [eM4]; exact mu_s _ _ _
  have k6 := (congrFun eM4 q).trans (mu_g k3 (gM_ne k3 k2 (by simp)))
  refine lv_aload_n hx hb dX0_takeSnapshot_13 rfl (lv_at hl 0 rfl) ?_
  refine lv_aload_n hx hb dX0_takeSnapshot_14 rfl (lv_at hl 1 rfl) ?_
  refine m_get X iX3 hK hw k6 rfl 2 (by decide) (ref := "ObjectMapper$Row") (by decide +kernel) (Or.inl rfl) rfl dX0_takeSnapshot_15 ?_
  refine m_put X iX0 tyX0_ok nmX0 hK hw hS k5 rfl 6 (by decide) (ref := "ObjectMapper$Entity") (by decide +kernel) (Or.inl rfl) rfl (v := .int rr) rfl rfl (Nat.le_of_ble_eq_true rfl) (fs1 := [.int (bI b1), .int (bI b2), .int 1, .int nm, .int rf, .int rn, .int rr, .int sv]) rfl dX0_takeSnapshot_18 (fun M7 H locs eM7 hw hS => ?_)
  have k8 : M7 h = some (.inr (1, [.int (bI b1), .int (bI b2), .int 1, .int nm, .int rf, .int rn, .int rr, .int sv])) := by rw [eM7]; exact mu_s _ _ _
  have k9 := (congrFun eM7 q).trans (mu_g k6 (gM_ne k6 k5 (by simp)))
  refine lv_aload_n hx hb dX0_takeSnapshot_21 rfl (lv_at hl 0 rfl) ?_
  refine lv_aload_n hx hb dX0_takeSnapshot_22 rfl (lv_at hl 1 rfl) ?_
  refine m_get X iX3 hK hw k9 rfl 3 (by decide) (ref := "ObjectMapper$Row") (by decide +kernel) (Or.inl rfl) rfl dX0_takeSnapshot_23 ?_
  refine m_put X iX0 tyX0_ok nmX0 hK hw hS k8 rfl 7 (by decide) (ref := "ObjectMapper$Entity") (by decide +kernel) (Or.inl rfl) rfl (v := .int rv) rfl rfl (Nat.le_of_ble_eq_true rfl) (fs1 := [.int (bI b1), .int (bI b2), .int 1, .int nm, .int rf, .int rn, .int rr, .int rv]) rfl dX0_takeSnapshot_26 (fun M10 H locs eM10 hw hS => ?_)
  have k11 : M10 h = some (.inr (1, [.int (bI b1), .int (bI b2), .int 1, .int nm, .int rf, .int rn, .int rr, .int rv])) := by rw [eM10]; exact mu_s _ _ _
  have k12 := (congrFun eM10 q).trans (mu_g k9 (gM_ne k9 k8 (by simp)))
  exact m_vret X hK hw hS (by subst_vars; simp only [mu_mu]; rfl) (by omega) (by omega) dX0_takeSnapshot_29
set_option maxHeartbeats 4000000 in
set_option maxRecDepth 100000 in
/-- Entity.load -/
theorem c_X0_load (l : Launch) (G : gG) (dce sz : Nat) (M : gM) (h : Nat) (v : vE) (hv : M h = some (eE v)) (q : Nat) (w : vR) (hr0 : M q = some (eR w)) : mV l yX0_load wsX0_load ({ frames := 1, cells := 0, slots := 0, locals := 22 }) G dce sz M [.ref h, .ref q] (fun M' => M' = mu M h (eE (fLoad v w))) (0) (0) := by
  obtain ⟨b1, b2, b3, nm, rf, sn, sr, sv⟩ := v
  have hv : M h = some (.inr (1, [.int (bI b1), .int (bI b2), .int (bI b3), .int nm, .int rf, .int sn, .int sr, .int sv])) := hv
  obtain ⟨rb, rn, rr, rv⟩ := w
  have hw0 : M q = some (.inr (4, [.int (bI rb), .int rn, .int rr, .int rv])) := hr0
  refine wMet (Qc := QV G _) (cc := cX0_load) (maxL := 2) (ret := none) (by decide) rfl (Nat.le_of_ble_eq_true rfl) ?_
  intro p e s m below meth c A ls X hnm hw hK hZ hA hS hsz eA hl
  obtain ⟨hx, hb, hr, hts, hown, hlk, hml⟩ := id X
  have hl : lv_has ls 2 [(0, .ref h), (1, .ref q)] := hl
  have iX3 : ∀ w ∈ wsX30, w ∈ wsX0_load := by decide +kernel
  refine lv_aload_n hx hb dX0_load_0 rfl (lv_at hl 0 rfl) ?_
  refine lv_aload_n hx hb dX0_load_1 rfl (lv_at hl 1 rfl) ?_
  refine m_get X iX3 hK hw hw0 rfl 1 (by decide) (ref := "ObjectMapper$Row") (by decide +kernel) (Or.inl rfl) rfl dX0_load_2 ?_
  refine lv_aload_n hx hb dX0_load_5 rfl (lv_at hl 1 rfl) ?_
  refine m_get X iX3 hK hw hw0 rfl 2 (by decide) (ref := "ObjectMapper$Row") (by decide +kernel) (Or.inl rfl) rfl dX0_load_6 ?_
  refine m_callVv X (ci := 1) rfl hv hK hw hZ hS hA (As := [.int rn, .int rr]) (rest := []) (c_X0_make l G dce _ M h (b1, b2, b3, nm, rf, sn, sr, sv) hv rn rr) (cwV 2 hts gX0_load_X0_make rfl rfl rfl (by decide +kernel) ⟨Nat.le_of_ble_eq_true rfl, Nat.le_of_ble_eq_true rfl⟩) rfl hl.1 rfl (Nat.le_of_ble_eq_true rfl) dX0_load_9 (Nat.le_of_ble_eq_true rfl) (Nat.le_of_ble_eq_true rfl) (fun M1 H locs hp hw hS hz hk => ?_)
  have eM1 := hp
  have k2 : M1 h = some (.inr (1, [.int (bI true), .int (bI b2), .int (bI b3), .int rn, .int rr, .int sn, .int sr, .int sv])) := by rw [eM1]; exact mu_s _ _ _
  have k3 := (congrFun eM1 q).trans (mu_g hw0 (gM_ne hw0 hv (by simp)))
  refine lv_aload_n hx hb dX0_load_12 rfl (lv_at hl 0 rfl) ?_
  refine lv_aload_n hx hb dX0_load_13 rfl (lv_at hl 1 rfl) ?_
  refine m_callVv X (ci := 1) rfl k2 hK hw hZ hS hA (As := [.ref q]) (rest := []) (c_X0_takeSnapshot l G dce _ M1 h (true, b2, b3, rn, rr, sn, sr, sv) k2 q (rb, rn, rr, rv) k3) (cwV 1 hts gX0_load_X0_takeSnapshot rfl rfl rfl (by decide +kernel) ⟨Nat.le_of_ble_eq_true rfl, Nat.le_of_ble_eq_true rfl⟩) rfl hl.1 rfl (Nat.le_of_ble_eq_true rfl) dX0_load_14 (Nat.le_of_ble_eq_true rfl) (Nat.le_of_ble_eq_true rfl) (fun M4 H locs hp hw hS hz hk => ?_)
  have eM4 := hp
  exact m_vret X hK hw hS (by subst_vars; simp only [mu_mu]; rfl) (by omega) (by omega) dX0_load_17
set_option maxHeartbeats 4000000 in
set_option maxRecDepth 100000 in
/-- Entity.strikeOut -/
theorem c_X0_strikeOut (l : Launch) (G : gG) (dce sz : Nat) (M : gM) (h : Nat) (v : vE) (hv : M h = some (eE v)) : mV l yX0_strikeOut wsX0_strikeOut ({ frames := 1, cells := 0, slots := 0, locals := 20 }) G dce sz M [.ref h] (fun M' => M' = mu M h (eE (fStrike v))) (0) (0) := by
  obtain ⟨b1, b2, b3, nm, rf, sn, sr, sv⟩ := v
  have hv : M h = some (.inr (1, [.int (bI b1), .int (bI b2), .int (bI b3), .int nm, .int rf, .int sn, .int sr, .int sv])) := hv
  refine wMet (Qc := QV G _) (cc := cX0_strikeOut) (maxL := 1) (ret := none) (by decide) rfl (Nat.le_of_ble_eq_true rfl) ?_
  intro p e s m below meth c A ls X hnm hw hK hZ hA hS hsz eA hl
  obtain ⟨hx, hb, hr, hts, hown, hlk, hml⟩ := id X
  have hl : lv_has ls 1 [(0, .ref h)] := hl
  have iX0 : ∀ w ∈ wsX00, w ∈ wsX0_strikeOut := by decide +kernel
  refine lv_aload_n hx hb dX0_strikeOut_0 rfl (lv_at hl 0 rfl) ?_
  refine m_get X iX0 hK hw hv rfl 2 (by decide) (ref := "ObjectMapper$Entity") (by decide +kernel) (Or.inl rfl) rfl dX0_strikeOut_1 ?_
  refine lv_if_eq (tgt := 15) hx hb dX0_strikeOut_4 (by decide) (fun c_4 => ?_) (fun c_4 => ?_)
  · refine lv_aload_n hx hb dX0_strikeOut_15 rfl (lv_at hl 0 rfl) ?_
    refine m_callVv X (ci := 1) rfl hv hK hw hZ hS hA (As := []) (rest := []) (c_X0_forget l G dce _ M h (b1, b2, b3, nm, rf, sn, sr, sv) hv) (cwV 0 hts gX0_strikeOut_X0_forget rfl rfl rfl (by decide +kernel) ⟨Nat.le_of_ble_eq_true rfl, Nat.le_of_ble_eq_true rfl⟩) rfl hl.1 rfl (Nat.le_of_ble_eq_true rfl) dX0_strikeOut_16 (Nat.le_of_ble_eq_true rfl) (Nat.le_of_ble_eq_true rfl) (fun M1 H locs hp hw hS hz hk => ?_)
    have eM1 := hp
    exact m_vret X hK hw hS (by subst_vars; simp_all [fStrike, fForget, bI_0, eE, mu_mu, bI]) (by omega) (by omega) dX0_strikeOut_19
  · refine lv_aload_n hx hb dX0_strikeOut_7 rfl (lv_at hl 0 rfl) ?_
    refine lv_iconst (v := 1) hx hb dX0_strikeOut_8 (by decide) ?_
    refine m_put X iX0 tyX0_ok nmX0 hK hw hS hv rfl 1 (by decide) (ref := "ObjectMapper$Entity") (by decide +kernel) (Or.inl rfl) rfl (v := .int 1) (by decide) (by decide) (Nat.le_of_ble_eq_true rfl) (fs1 := [.int (bI b1), .int 1, .int (bI b3), .int nm, .int rf, .int sn, .int sr, .int sv]) rfl dX0_strikeOut_9 (fun M2 H locs eM2 hw hS => ?_)
    have k3 : M2 h = some (.inr (1, [.int (bI b1), .int 1, .int (bI b3), .int nm, .int rf, .int sn, .int sr, .int sv])) := by rw [eM2]; exact mu_s _ _ _
    refine lv_goto (tgt := 19) hx hb dX0_strikeOut_12 (by decide) ?_
    exact m_vret X hK hw hS (by subst_vars; simp_all [fStrike, fForget, bI_0, eE, mu_mu, bI]) (by omega) (by omega) dX0_strikeOut_19
set_option maxHeartbeats 4000000 in
set_option maxRecDepth 100000 in
/-- Entity() -/
theorem c_X0_init (l : Launch) (G : gG) (dce sz : Nat) (M : gM) (h : Nat) (hv : M h = some (.inr (1, [.int 0, .int 0, .int 0, .int 0, .int 0, .int 0, .int 0, .int 0]))) : mV l yX0_init wsX0_init ({ frames := 1, cells := 0, slots := 0, locals := 12 }) G dce sz M [.ref h] (fun M' => M' = mu M h (eE (false, false, false, 0, -1, 0, 0, 0))) (0) (0) := by
  refine wMet (Qc := QV G _) (cc := cX0_init) (maxL := 1) (ret := none) (by decide) rfl (Nat.le_of_ble_eq_true rfl) ?_
  intro p e s m below meth c A ls X hnm hw hK hZ hA hS hsz eA hl
  obtain ⟨hx, hb, hr, hts, hown, hlk, hml⟩ := id X
  have hl : lv_has ls 1 [(0, .ref h)] := hl
  have hin : meth.name = "<init>" := hnm
  have iX0 : ∀ w ∈ wsX00, w ∈ wsX0_init := by decide +kernel
  refine lv_aload_n hx hb dX0_init_0 rfl (lv_at hl 0 rfl) ?_
  refine W.objInit hx hb hown (hts (.methodLink RX0 3 objectInit) (by decide +kernel)) (hts (.instanceMethod objectInit) (by decide +kernel)) (hts (.code objectInit ⟨#[0xb1]⟩ 1 none) (by decide +kernel)) rfl (by rw [hml]; exact hl.1) rfl dX0_init_1 (Nat.le_of_ble_eq_true rfl) (Nat.le_of_ble_eq_true rfl) ?_
  refine W.eq (g2 := F0 m 4 ls []) rfl ?_
  refine lv_aload_n hx hb dX0_init_4 rfl (lv_at hl 0 rfl) ?_
  refine lv_iconst (v := (-1)) hx hb dX0_init_5 (by decide) ?_
  refine m_put X iX0 tyX0_ok nmX0 hK hw hS hv rfl 4 (by decide) (ref := "ObjectMapper$Entity") (by decide +kernel) (Or.inl rfl) rfl (v := .int (-1)) rfl rfl (Nat.le_of_ble_eq_true rfl) (fs1 := [.int 0, .int 0, .int 0, .int 0, .int (-1), .int 0, .int 0, .int 0]) rfl dX0_init_6 (fun M1 H locs eM1 hw hS => ?_)
  have k2 : M1 h = some (.inr (1, [.int 0, .int 0, .int 0, .int 0, .int (-1), .int 0, .int 0, .int 0])) := by rw [eM1]; exact mu_s _ _ _
  exact m_vret X hK hw hS (by subst_vars; rfl) (by omega) (by omega) dX0_init_9
set_option maxHeartbeats 4000000 in
set_option maxRecDepth 100000 in
/-- Row() -/
theorem c_X3_init (l : Launch) (G : gG) (dce sz : Nat) (M : gM) (h : Nat) (hv : M h = some (.inr (4, [.int 0, .int 0, .int 0, .int 0]))) : mV l yX3_init wsX3_init ({ frames := 1, cells := 0, slots := 0, locals := 12 }) G dce sz M [.ref h] (fun M' => M' = mu M h (eR (false, 0, -1, 0))) (0) (0) := by
  refine wMet (Qc := QV G _) (cc := cX3_init) (maxL := 1) (ret := none) (by decide) rfl (Nat.le_of_ble_eq_true rfl) ?_
  intro p e s m below meth c A ls X hnm hw hK hZ hA hS hsz eA hl
  obtain ⟨hx, hb, hr, hts, hown, hlk, hml⟩ := id X
  have hl : lv_has ls 1 [(0, .ref h)] := hl
  have hin : meth.name = "<init>" := hnm
  have iX3 : ∀ w ∈ wsX30, w ∈ wsX3_init := by decide +kernel
  refine lv_aload_n hx hb dX3_init_0 rfl (lv_at hl 0 rfl) ?_
  refine W.objInit hx hb hown (hts (.methodLink RX3 3 objectInit) (by decide +kernel)) (hts (.instanceMethod objectInit) (by decide +kernel)) (hts (.code objectInit ⟨#[0xb1]⟩ 1 none) (by decide +kernel)) rfl (by rw [hml]; exact hl.1) rfl dX3_init_1 (Nat.le_of_ble_eq_true rfl) (Nat.le_of_ble_eq_true rfl) ?_
  refine W.eq (g2 := F0 m 4 ls []) rfl ?_
  refine lv_aload_n hx hb dX3_init_4 rfl (lv_at hl 0 rfl) ?_
  refine lv_iconst (v := (-1)) hx hb dX3_init_5 (by decide) ?_
  refine m_put X iX3 tyX3_ok nmX3 hK hw hS hv rfl 2 (by decide) (ref := "ObjectMapper$Row") (by decide +kernel) (Or.inl rfl) rfl (v := .int (-1)) rfl rfl (Nat.le_of_ble_eq_true rfl) (fs1 := [.int 0, .int 0, .int (-1), .int 0]) rfl dX3_init_6 (fun M1 H locs eM1 hw hS => ?_)
  have k2 : M1 h = some (.inr (4, [.int 0, .int 0, .int (-1), .int 0])) := by rw [eM1]; exact mu_s _ _ _
  exact m_vret X hK hw hS (by subst_vars; rfl) (by omega) (by omega) dX3_init_9
set_option maxHeartbeats 4000000 in
set_option maxRecDepth 100000 in
/-- Row.insert -/
theorem c_X3_insert (l : Launch) (G : gG) (dce sz : Nat) (M : gM) (q : Nat) (w : vR) (hr0 : M q = some (eR w)) (x y : Int32) : mV l yX3_insert wsX3_insert ({ frames := 0, cells := 0, slots := 0, locals := 0 }) G dce sz M [.ref q, .int x, .int y] (fun M' => M' = mu M q (eR (fIns w x y))) (0) (0) := by
  obtain ⟨rb, rn, rr, rv⟩ := w
  have hw0 : M q = some (.inr (4, [.int (bI rb), .int rn, .int rr, .int rv])) := hr0
  refine wMet (Qc := QV G _) (cc := cX3_insert) (maxL := 3) (ret := none) (by decide) rfl (Nat.le_of_ble_eq_true rfl) ?_
  intro p e s m below meth c A ls X hnm hw hK hZ hA hS hsz eA hl
  obtain ⟨hx, hb, hr, hts, hown, hlk, hml⟩ := id X
  have hl : lv_has ls 3 [(0, .ref q), (1, .int x), (2, .int y)] := hl
  have iX3 : ∀ w ∈ wsX30, w ∈ wsX3_insert := by decide +kernel
  refine lv_aload_n hx hb dX3_insert_0 rfl (lv_at hl 0 rfl) ?_
  refine lv_iconst (v := 1) hx hb dX3_insert_1 (by decide) ?_
  refine m_put X iX3 tyX3_ok nmX3 hK hw hS hw0 rfl 0 (by decide) (ref := "ObjectMapper$Row") (by decide +kernel) (Or.inl rfl) rfl (v := .int 1) (by decide) (by decide) (Nat.le_of_ble_eq_true rfl) (fs1 := [.int 1, .int rn, .int rr, .int rv]) rfl dX3_insert_2 (fun M1 H locs eM1 hw hS => ?_)
  have k2 : M1 q = some (.inr (4, [.int 1, .int rn, .int rr, .int rv])) := by rw [eM1]; exact mu_s _ _ _
  refine lv_aload_n hx hb dX3_insert_5 rfl (lv_at hl 0 rfl) ?_
  refine lv_iload_n hx hb dX3_insert_6 rfl (lv_at hl 1 rfl) ?_
  refine m_put X iX3 tyX3_ok nmX3 hK hw hS k2 rfl 1 (by decide) (ref := "ObjectMapper$Row") (by decide +kernel) (Or.inl rfl) rfl (v := .int x) rfl rfl (Nat.le_of_ble_eq_true rfl) (fs1 := [.int 1, .int x, .int rr, .int rv]) rfl dX3_insert_7 (fun M3 H locs eM3 hw hS => ?_)
  have k4 : M3 q = some (.inr (4, [.int 1, .int x, .int rr, .int rv])) := by rw [eM3]; exact mu_s _ _ _
  refine lv_aload_n hx hb dX3_insert_10 rfl (lv_at hl 0 rfl) ?_
  refine lv_iload_n hx hb dX3_insert_11 rfl (lv_at hl 2 rfl) ?_
  refine m_put X iX3 tyX3_ok nmX3 hK hw hS k4 rfl 2 (by decide) (ref := "ObjectMapper$Row") (by decide +kernel) (Or.inl rfl) rfl (v := .int y) rfl rfl (Nat.le_of_ble_eq_true rfl) (fs1 := [.int 1, .int x, .int y, .int rv]) rfl dX3_insert_12 (fun M5 H locs eM5 hw hS => ?_)
  have k6 : M5 q = some (.inr (4, [.int 1, .int x, .int y, .int rv])) := by rw [eM5]; exact mu_s _ _ _
  refine lv_aload_n hx hb dX3_insert_15 rfl (lv_at hl 0 rfl) ?_
  refine lv_iconst (v := 0) hx hb dX3_insert_16 (by decide) ?_
  refine m_put X iX3 tyX3_ok nmX3 hK hw hS k6 rfl 3 (by decide) (ref := "ObjectMapper$Row") (by decide +kernel) (Or.inl rfl) rfl (v := .int 0) rfl rfl (Nat.le_of_ble_eq_true rfl) (fs1 := [.int 1, .int x, .int y, .int 0]) rfl dX3_insert_17 (fun M7 H locs eM7 hw hS => ?_)
  have k8 : M7 q = some (.inr (4, [.int 1, .int x, .int y, .int 0])) := by rw [eM7]; exact mu_s _ _ _
  exact m_vret X hK hw hS (by subst_vars; simp only [mu_mu]; rfl) (by omega) (by omega) dX3_insert_20
set_option maxHeartbeats 4000000 in
set_option maxRecDepth 100000 in
/-- Row.update -/
theorem c_X3_update (l : Launch) (G : gG) (dce sz : Nat) (M : gM) (q : Nat) (w : vR) (hr0 : M q = some (eR w)) (x y : Int32) : mV l yX3_update wsX3_update ({ frames := 0, cells := 0, slots := 0, locals := 0 }) G dce sz M [.ref q, .int x, .int y] (fun M' => M' = mu M q (eR (fUpd w x y))) (0) (0) := by
  obtain ⟨rb, rn, rr, rv⟩ := w
  have hw0 : M q = some (.inr (4, [.int (bI rb), .int rn, .int rr, .int rv])) := hr0
  refine wMet (Qc := QV G _) (cc := cX3_update) (maxL := 3) (ret := none) (by decide) rfl (Nat.le_of_ble_eq_true rfl) ?_
  intro p e s m below meth c A ls X hnm hw hK hZ hA hS hsz eA hl
  obtain ⟨hx, hb, hr, hts, hown, hlk, hml⟩ := id X
  have hl : lv_has ls 3 [(0, .ref q), (1, .int x), (2, .int y)] := hl
  have iX3 : ∀ w ∈ wsX30, w ∈ wsX3_update := by decide +kernel
  refine lv_aload_n hx hb dX3_update_0 rfl (lv_at hl 0 rfl) ?_
  refine lv_iload_n hx hb dX3_update_1 rfl (lv_at hl 1 rfl) ?_
  refine m_put X iX3 tyX3_ok nmX3 hK hw hS hw0 rfl 1 (by decide) (ref := "ObjectMapper$Row") (by decide +kernel) (Or.inl rfl) rfl (v := .int x) rfl rfl (Nat.le_of_ble_eq_true rfl) (fs1 := [.int (bI rb), .int x, .int rr, .int rv]) rfl dX3_update_2 (fun M1 H locs eM1 hw hS => ?_)
  have k2 : M1 q = some (.inr (4, [.int (bI rb), .int x, .int rr, .int rv])) := by rw [eM1]; exact mu_s _ _ _
  refine lv_aload_n hx hb dX3_update_5 rfl (lv_at hl 0 rfl) ?_
  refine lv_iload_n hx hb dX3_update_6 rfl (lv_at hl 2 rfl) ?_
  refine m_put X iX3 tyX3_ok nmX3 hK hw hS k2 rfl 2 (by decide) (ref := "ObjectMapper$Row") (by decide +kernel) (Or.inl rfl) rfl (v := .int y) rfl rfl (Nat.le_of_ble_eq_true rfl) (fs1 := [.int (bI rb), .int x, .int y, .int rv]) rfl dX3_update_7 (fun M3 H locs eM3 hw hS => ?_)
  have k4 : M3 q = some (.inr (4, [.int (bI rb), .int x, .int y, .int rv])) := by rw [eM3]; exact mu_s _ _ _
  refine lv_aload_n hx hb dX3_update_10 rfl (lv_at hl 0 rfl) ?_
  refine lv_dup hx hb dX3_update_11 rfl ?_
  refine m_get X iX3 hK hw k4 rfl 3 (by decide) (ref := "ObjectMapper$Row") (by decide +kernel) (Or.inl rfl) rfl dX3_update_12 ?_
  refine lv_iconst (v := 1) hx hb dX3_update_15 (by decide) ?_
  refine lv_iadd hx hb dX3_update_16 ?_
  refine m_put X iX3 tyX3_ok nmX3 hK hw hS k4 rfl 3 (by decide) (ref := "ObjectMapper$Row") (by decide +kernel) (Or.inl rfl) rfl (v := .int (rv + 1)) rfl rfl (Nat.le_of_ble_eq_true rfl) (fs1 := [.int (bI rb), .int x, .int y, .int (rv + 1)]) rfl dX3_update_17 (fun M5 H locs eM5 hw hS => ?_)
  have k6 : M5 q = some (.inr (4, [.int (bI rb), .int x, .int y, .int (rv + 1)])) := by rw [eM5]; exact mu_s _ _ _
  exact m_vret X hK hw hS (by subst_vars; simp only [mu_mu]; rfl) (by omega) (by omega) dX3_update_20
end
section
def oL (mc : Int32) (ex : Nat) (n : Int32) : va_E := .inr (0, [.int mc, .ref ex, .int n])
def oA (G : gG) (cap : Nat) (g : Nat → Option Nat) : va_E := .inl (G.2 3, cap, .inr (.inr (.inr (.inr g))))
/-- a list of n references: its object, its row -/
def isL (G : gG) (dce : Nat) (M : gM) (lx ex n : Nat) (f : Nat → Nat) : Prop := (∃ mc : Int32, M lx = some (oL mc ex (nI n))) ∧ ((n = 0 ∧ ex = dce) ∨ ∃ (cap : Nat) (g : Nat → Option Nat), M ex = some (oA G cap g) ∧ n ≤ cap ∧ cap ≤ 2048 ∧ ∀ k, k < n → g k = some (f k))
def Fr (M M' : gM) (P : Nat → Prop) : Prop := ∀ b e, M b = some e → ¬ P b → M' b = some e
set_option maxHeartbeats 4000000 in
set_option maxRecDepth 100000 in
theorem c_Jxa1e45_init_da8c8 (l : Launch) (G : gG) (dce sz : Nat) (M : gM) (h : Nat) : mV l yJxa1e45_init_da8c8 wsJxa1e45_init_da8c8 ({ frames := 1, cells := 0, slots := 0, locals := 12 }) G dce sz M [.ref h] (fun M' => M' = M) (0) (0) := by
  refine wMet (Qc := QV G _) (cc := cJxa1e45_init_da8c8) (maxL := 1) (ret := none) (by decide) rfl (Nat.le_of_ble_eq_true rfl) ?_
  intro p e s m below meth c A ls X hnm hw hK hZ hA hS hsz eA hl
  obtain ⟨hx, hb, hr, hts, hown, hlk, hml⟩ := id X
  have hl : lv_has ls 1 [(0, .ref h)] := hl
  have hin : meth.name = "<init>" := hnm
  refine lv_aload_n hx hb dJxa1e45_init_da8c8_0 rfl (lv_at hl 0 rfl) ?_
  refine W.objInit hx hb hown (hts (.methodLink RJxa1e45 1 objectInit) (by decide +kernel)) (hts (.instanceMethod objectInit) (by decide +kernel)) (hts (.code objectInit ⟨#[0xb1]⟩ 1 none) (by decide +kernel)) rfl (by rw [hml]; exact hl.1) rfl dJxa1e45_init_da8c8_1 (Nat.le_of_ble_eq_true rfl) (Nat.le_of_ble_eq_true rfl) ?_
  refine W.eq (g2 := F0 m 4 ls []) rfl ?_
  exact m_vret X hK hw hS (by rfl) (by omega) (by omega) dJxa1e45_init_da8c8_4
set_option maxHeartbeats 4000000 in
set_option maxRecDepth 100000 in
theorem c_Jxc12de_init_da8c8 (l : Launch) (G : gG) (dce sz : Nat) (M : gM) (h : Nat) (hv : M h = some (.inr (0, [.int 0, .null, .int 0]))) : mV l yJxc12de_init_da8c8 wsJxc12de_init_da8c8 ({ frames := 2, cells := 0, slots := 0, locals := 32 }) G dce sz M [.ref h] (fun M' => M' = mu M h (.inr (0, [.int 0, .null, .int 0]))) (0) (0) := by
  refine wMet (Qc := QV G _) (cc := cJxc12de_init_da8c8) (maxL := 1) (ret := none) (by decide) rfl (Nat.le_of_ble_eq_true rfl) ?_
  intro p e s m below meth c A ls X hnm hw hK hZ hA hS hsz eA hl
  obtain ⟨hx, hb, hr, hts, hown, hlk, hml⟩ := id X
  have hl : lv_has ls 1 [(0, .ref h)] := hl
  have hin : meth.name = "<init>" := hnm
  have iJx4a65c : ∀ w ∈ wsJx4a65c0, w ∈ wsJxc12de_init_da8c8 := by decide +kernel
  refine lv_aload_n hx hb dJxc12de_init_da8c8_0 rfl (lv_at hl 0 rfl) ?_
  refine m_callIv X hK hw hZ hS hA (As := []) (rest := []) (c_Jxa1e45_init_da8c8 l G dce _ M h) (cwI 0 hts gJxc12de_init_da8c8_Jxa1e45_init_da8c8 rfl rfl rfl (hts (.initialized RJxa1e45) (by decide +kernel)) (hts (.methodLink RJxc12de 1 yJxa1e45_init_da8c8) (by decide +kernel)) (hts (.instanceMethod yJxa1e45_init_da8c8) (by decide +kernel)) rfl (by decide +kernel) ⟨Nat.le_of_ble_eq_true rfl, Nat.le_of_ble_eq_true rfl⟩) rfl hl.1 rfl (Nat.le_of_ble_eq_true rfl) dJxc12de_init_da8c8_1 (Nat.le_of_ble_eq_true rfl) (Nat.le_of_ble_eq_true rfl) (fun M1 H locs hp hw hS hz hk => ?_)
  rw [hp] at hw
  refine lv_aload_n hx hb dJxc12de_init_da8c8_4 rfl (lv_at hl 0 rfl) ?_
  refine lv_iconst (v := 0) hx hb dJxc12de_init_da8c8_5 (by decide) ?_
  refine m_put X iJx4a65c tyJx4a65c_ok nmJx4a65c hK hw hS hv rfl 0 (by decide) (ref := "java/util/AbstractList") (by decide +kernel) (Or.inl rfl) rfl (v := .int 0) rfl rfl (Nat.le_of_ble_eq_true rfl) (fs1 := [.int 0, .null, .int 0]) rfl dJxc12de_init_da8c8_6 (fun M2 H locs eM2 hw hS => ?_)
  have k3 : M2 h = some (.inr (0, [.int 0, .null, .int 0])) := by rw [eM2]; exact mu_s _ _ _
  exact m_vret X hK hw hS (by subst_vars; rfl) (by omega) (by omega) dJxc12de_init_da8c8_9
set_option maxHeartbeats 4000000 in
set_option maxRecDepth 100000 in
theorem c_Jx4a65c_init_da8c8 (l : Launch) (G : gG) (dce sz : Nat) (M : gM) (h : Nat) (hv : M h = some (.inr (0, [.int 0, .null, .int 0]))) : mV l yJx4a65c_init_da8c8 wsJx4a65c_init_da8c8 ({ frames := 3, cells := 0, slots := 0, locals := 52 }) G dce sz M [.ref h] (fun M' => M' = mu M h (oL 0 dce 0)) (0) (0) := by
  refine wMet (Qc := QV G _) (cc := cJx4a65c_init_da8c8) (maxL := 1) (ret := none) (by decide) rfl (Nat.le_of_ble_eq_true rfl) ?_
  intro p e s m below meth c A ls X hnm hw hK hZ hA hS hsz eA hl
  obtain ⟨hx, hb, hr, hts, hown, hlk, hml⟩ := id X
  have hl : lv_has ls 1 [(0, .ref h)] := hl
  have hin : meth.name = "<init>" := hnm
  have iJx4a65c : ∀ w ∈ wsJx4a65c0, w ∈ wsJx4a65c_init_da8c8 := by decide +kernel
  refine lv_aload_n hx hb dJx4a65c_init_da8c8_0 rfl (lv_at hl 0 rfl) ?_
  refine m_callIv X hK hw hZ hS hA (As := []) (rest := []) (c_Jxc12de_init_da8c8 l G dce _ M h hv) (cwI 0 hts gJx4a65c_init_da8c8_Jxc12de_init_da8c8 rfl rfl rfl (hts (.initialized RJxc12de) (by decide +kernel)) (hts (.methodLink RJx4a65c 1 yJxc12de_init_da8c8) (by decide +kernel)) (hts (.instanceMethod yJxc12de_init_da8c8) (by decide +kernel)) rfl (by decide +kernel) ⟨Nat.le_of_ble_eq_true rfl, Nat.le_of_ble_eq_true rfl⟩) rfl hl.1 rfl (Nat.le_of_ble_eq_true rfl) dJx4a65c_init_da8c8_1 (Nat.le_of_ble_eq_true rfl) (Nat.le_of_ble_eq_true rfl) (fun M1 H locs hp hw hS hz hk => ?_)
  have eM1 := hp
  have k2 : M1 h = some (.inr (0, [.int 0, .null, .int 0])) := by rw [eM1]; exact mu_s _ _ _
  refine lv_aload_n hx hb dJx4a65c_init_da8c8_4 rfl (lv_at hl 0 rfl) ?_
  refine m_gets X hZ hS (by decide +kernel) dJx4a65c_init_da8c8_5 ?_
  refine m_put X iJx4a65c tyJx4a65c_ok nmJx4a65c hK hw hS k2 rfl 1 (by decide) (ref := "java/util/ArrayList") (by decide +kernel) (Or.inl rfl) rfl (v := .ref dce) rfl rfl (Nat.le_of_ble_eq_true rfl) (fs1 := [.int 0, .ref dce, .int 0]) rfl dJx4a65c_init_da8c8_8 (fun M3 H locs eM3 hw hS => ?_)
  have k4 : M3 h = some (.inr (0, [.int 0, .ref dce, .int 0])) := by rw [eM3]; exact mu_s _ _ _
  exact m_vret X hK hw hS (by subst_vars; simp only [mu_mu]; rfl) (by omega) (by omega) dJx4a65c_init_da8c8_11
set_option maxHeartbeats 4000000 in
set_option maxRecDepth 100000 in
theorem c_Jx4a65c_size_8abf5 (l : Launch) (G : gG) (dce sz : Nat) (M : gM) (h ex : Nat) (mc n : Int32) (hv : M h = some (oL mc ex n)) : mI l yJx4a65c_size_8abf5 wsJx4a65c_size_8abf5 ({ frames := 0, cells := 0, slots := 0, locals := 0 }) G dce sz M [.ref h] (fun r M' => r = n ∧ M' = M) (0) (0) := by
  have hv : M h = some (.inr (0, [.int mc, .ref ex, .int n])) := hv
  refine wMet (Qc := QI G _) (cc := cJx4a65c_size_8abf5) (maxL := 1) (ret := (some .int)) (by decide) rfl (Nat.le_of_ble_eq_true rfl) ?_
  intro p e s m below meth c A ls X hnm hw hK hZ hA hS hsz eA hl
  obtain ⟨hx, hb, hr, hts, hown, hlk, hml⟩ := id X
  have hl : lv_has ls 1 [(0, .ref h)] := hl
  have iJx4a65c : ∀ w ∈ wsJx4a65c0, w ∈ wsJx4a65c_size_8abf5 := by decide +kernel
  refine lv_aload_n hx hb dJx4a65c_size_8abf5_0 rfl (lv_at hl 0 rfl) ?_
  refine m_get X iJx4a65c hK hw hv rfl 2 (by decide) (ref := "java/util/ArrayList") (by decide +kernel) (Or.inl rfl) rfl dJx4a65c_size_8abf5_1 ?_
  exact m_iret X hK hw hS (by exact ⟨rfl, rfl⟩) (by omega) (by omega) dJx4a65c_size_8abf5_4
set_option maxHeartbeats 4000000 in
set_option maxRecDepth 100000 in
theorem c_Jx4a65c_elementData_915e3 (l : Launch) (G : gG) (dce sz : Nat) (M : gM) (h ex k cap a : Nat) (mc n : Int32) (g : Nat → Option Nat) (hv : M h = some (oL mc ex n)) (hex : M ex = some (oA G cap g)) (hk0 : k < cap) (hcap : cap ≤ 2048) (hg : g k = some a) : mR l yJx4a65c_elementData_915e3 wsJx4a65c_elementData_915e3 ({ frames := 0, cells := 0, slots := 0, locals := 0 }) G dce sz M [.ref h, .int (nI k)] (fun r M' => r = a ∧ M' = M) (0) (0) := by
  have hv : M h = some (.inr (0, [.int mc, .ref ex, .int n])) := hv
  refine wMet (Qc := QR G _) (cc := cJx4a65c_elementData_915e3) (maxL := 2) (ret := (some (.object "java/lang/Object"))) (by decide) rfl (Nat.le_of_ble_eq_true rfl) ?_
  intro p e s m below meth c A ls X hnm hw hK hZ hA hS hsz eA hl
  obtain ⟨hx, hb, hr, hts, hown, hlk, hml⟩ := id X
  have hl : lv_has ls 2 [(0, .ref h), (1, .int (nI k))] := hl
  have iJx4a65c : ∀ w ∈ wsJx4a65c0, w ∈ wsJx4a65c_elementData_915e3 := by decide +kernel
  refine lv_aload_n hx hb dJx4a65c_elementData_915e3_0 rfl (lv_at hl 0 rfl) ?_
  refine m_get X iJx4a65c hK hw hv rfl 1 (by decide) (ref := "java/util/ArrayList") (by decide +kernel) (Or.inl rfl) rfl dJx4a65c_elementData_915e3_1 ?_
  refine lv_iload_n hx hb dJx4a65c_elementData_915e3_4 rfl (lv_at hl 1 rfl) ?_
  refine m_aald X hK hw 3 hex rfl (v := a) (by rw [nI_clamp (by omega)]; exact hg) (vp_in_nI hk0 (by omega)) dJx4a65c_elementData_915e3_5 ?_
  exact m_aret X (Or.inl ⟨_, rfl⟩) hK hw hS (by exact ⟨rfl, rfl⟩) (by omega) (by omega) dJx4a65c_elementData_915e3_6
set_option maxHeartbeats 4000000 in
set_option maxRecDepth 100000 in
theorem c_J3_checkIndex_8e157 (l : Launch) (G : gG) (dce sz : Nat) (M : gM) (k n : Nat) (hk0 : k < n) (hn : n < 2 ^ 31) : mI l yJ3_checkIndex_8e157 wsJ3_checkIndex_8e157 ({ frames := 0, cells := 0, slots := 0, locals := 0 }) G dce sz M [.int (nI k), .int (nI n), .null] (fun r M' => r = nI k ∧ M' = M) (0) (0) := by
  refine wMet (Qc := QI G _) (cc := cJ3_checkIndex_8e157) (maxL := 3) (ret := (some .int)) (by decide) rfl (Nat.le_of_ble_eq_true rfl) ?_
  intro p e s m below meth c A ls X hnm hw hK hZ hA hS hsz eA hl
  obtain ⟨hx, hb, hr, hts, hown, hlk, hml⟩ := id X
  have hl : lv_has ls 3 [(0, .int (nI k)), (1, .int (nI n)), (2, .null)] := hl
  refine lv_iload_n hx hb dJ3_checkIndex_8e157_0 rfl (lv_at hl 0 rfl) ?_
  refine lv_if_lt (tgt := 9) hx hb dJ3_checkIndex_8e157_1 (by decide) (fun c_1 => ?_) (fun c_1 => ?_)
  · exact (by exfalso; first | exact absurd c_1 (nI_pos (by omega)) | exact absurd (nI_lt hk0 hn) c_6)
  · refine lv_iload_n hx hb dJ3_checkIndex_8e157_4 rfl (lv_at hl 0 rfl) ?_
    refine lv_iload_n hx hb dJ3_checkIndex_8e157_5 rfl (lv_at hl 1 rfl) ?_
    refine lv_icmp_lt (tgt := 16) hx hb dJ3_checkIndex_8e157_6 (by decide) (fun c_6 => ?_) (fun c_6 => ?_)
    · refine lv_iload_n hx hb dJ3_checkIndex_8e157_16 rfl (lv_at hl 0 rfl) ?_
      exact m_iret X hK hw hS (by exact ⟨rfl, rfl⟩) (by omega) (by omega) dJ3_checkIndex_8e157_17
    · exact (by exfalso; first | exact absurd c_1 (nI_pos (by omega)) | exact absurd (nI_lt hk0 hn) c_6)
set_option maxHeartbeats 4000000 in
set_option maxRecDepth 100000 in
theorem c_J15_checkIndex_7cf53 (l : Launch) (G : gG) (dce sz : Nat) (M : gM) (k n : Nat) (hk0 : k < n) (hn : n < 2 ^ 31) : mI l yJ15_checkIndex_7cf53 wsJ15_checkIndex_7cf53 ({ frames := 1, cells := 0, slots := 0, locals := 22 }) G dce sz M [.int (nI k), .int (nI n)] (fun r M' => r = nI k ∧ M' = M) (0) (0) := by
  refine wMet (Qc := QI G _) (cc := cJ15_checkIndex_7cf53) (maxL := 2) (ret := (some .int)) (by decide) rfl (Nat.le_of_ble_eq_true rfl) ?_
  intro p e s m below meth c A ls X hnm hw hK hZ hA hS hsz eA hl
  obtain ⟨hx, hb, hr, hts, hown, hlk, hml⟩ := id X
  have hl : lv_has ls 2 [(0, .int (nI k)), (1, .int (nI n))] := hl
  refine lv_iload_n hx hb dJ15_checkIndex_7cf53_0 rfl (lv_at hl 0 rfl) ?_
  refine lv_iload_n hx hb dJ15_checkIndex_7cf53_1 rfl (lv_at hl 1 rfl) ?_
  refine lv_null hx hb dJ15_checkIndex_7cf53_2 ?_
  refine m_callSi X hK hw hZ hS hA (As := [.int (nI k), .int (nI n), .null]) (rest := []) (c_J3_checkIndex_8e157 l G dce _ M k n hk0 hn) (va_cwS 3 hts gJ15_checkIndex_7cf53_J3_checkIndex_8e157 rfl rfl rfl (by decide +kernel) ⟨Nat.le_of_ble_eq_true rfl, Nat.le_of_ble_eq_true rfl⟩) rfl hl.1 rfl (Nat.le_of_ble_eq_true rfl) dJ15_checkIndex_7cf53_3 (Nat.le_of_ble_eq_true rfl) (Nat.le_of_ble_eq_true rfl) (fun r2 M1 H locs hp hw hS hz hk => ?_)
  rw [hp.2] at hw
  have er2 := hp.1
  subst er2
  exact m_iret X hK hw hS (by exact ⟨rfl, rfl⟩) (by omega) (by omega) dJ15_checkIndex_7cf53_6
set_option maxHeartbeats 4000000 in
set_option maxRecDepth 100000 in
theorem c_Jx4a65c_get_915e3 (l : Launch) (G : gG) (dce sz : Nat) (M : gM) (h ex k n cap a : Nat) (mc : Int32) (g : Nat → Option Nat) (hv : M h = some (oL mc ex (nI n))) (hex : M ex = some (oA G cap g)) (hk0 : k < n) (hnc : n ≤ cap) (hcap : cap ≤ 2048) (hg : g k = some a) : mR l yJx4a65c_get_915e3 wsJx4a65c_get_915e3 ({ frames := 2, cells := 0, slots := 0, locals := 43 }) G dce sz M [.ref h, .int (nI k)] (fun r M' => r = a ∧ M' = M) (0) (0) := by
  have hv : M h = some (.inr (0, [.int mc, .ref ex, .int (nI n)])) := hv
  refine wMet (Qc := QR G _) (cc := cJx4a65c_get_915e3) (maxL := 2) (ret := (some (.object "java/lang/Object"))) (by decide) rfl (Nat.le_of_ble_eq_true rfl) ?_
  intro p e s m below meth c A ls X hnm hw hK hZ hA hS hsz eA hl
  obtain ⟨hx, hb, hr, hts, hown, hlk, hml⟩ := id X
  have hl : lv_has ls 2 [(0, .ref h), (1, .int (nI k))] := hl
  have iJx4a65c : ∀ w ∈ wsJx4a65c0, w ∈ wsJx4a65c_get_915e3 := by decide +kernel
  refine lv_iload_n hx hb dJx4a65c_get_915e3_0 rfl (lv_at hl 1 rfl) ?_
  refine lv_aload_n hx hb dJx4a65c_get_915e3_1 rfl (lv_at hl 0 rfl) ?_
  refine m_get X iJx4a65c hK hw hv rfl 2 (by decide) (ref := "java/util/ArrayList") (by decide +kernel) (Or.inl rfl) rfl dJx4a65c_get_915e3_2 ?_
  refine m_callSi X hK hw hZ hS hA (As := [.int (nI k), .int (nI n)]) (rest := []) (c_J15_checkIndex_7cf53 l G dce _ M k n hk0 (by omega)) (va_cwS 2 hts gJx4a65c_get_915e3_J15_checkIndex_7cf53 rfl rfl rfl (by decide +kernel) ⟨Nat.le_of_ble_eq_true rfl, Nat.le_of_ble_eq_true rfl⟩) rfl hl.1 rfl (Nat.le_of_ble_eq_true rfl) dJx4a65c_get_915e3_5 (Nat.le_of_ble_eq_true rfl) (Nat.le_of_ble_eq_true rfl) (fun r2 M1 H locs hp hw hS hz hk => ?_)
  rw [hp.2] at hw
  have er2 := hp.1
  subst er2
  refine lv_pop hx hb dJx4a65c_get_915e3_8 rfl ?_
  refine lv_aload_n hx hb dJx4a65c_get_915e3_9 rfl (lv_at hl 0 rfl) ?_
  refine lv_iload_n hx hb dJx4a65c_get_915e3_10 rfl (lv_at hl 1 rfl) ?_
  refine m_callVr X (ci := 0) rfl hv hK hw hZ hS hA (As := [.int (nI k)]) (rest := []) (c_Jx4a65c_elementData_915e3 l G dce _ M h ex k cap a mc (nI n) g hv hex (by omega) hcap hg) (cwV 1 hts gJx4a65c_get_915e3_Jx4a65c_elementData_915e3 rfl rfl rfl (by decide +kernel) ⟨Nat.le_of_ble_eq_true rfl, Nat.le_of_ble_eq_true rfl⟩) rfl hl.1 rfl (Nat.le_of_ble_eq_true rfl) dJx4a65c_get_915e3_11 (Nat.le_of_ble_eq_true rfl) (Nat.le_of_ble_eq_true rfl) (fun r4 M3 H locs hp hw hS hz hk => ?_)
  rw [hp.2] at hw
  have er4 := hp.1
  subst er4
  exact m_aret X (Or.inl ⟨_, rfl⟩) hK hw hS (by exact ⟨rfl, rfl⟩) (by omega) (by omega) dJx4a65c_get_915e3_14
end
section
def oS (la lb nb : Nat) : va_E := .inr (5, [.ref la, .ref lb, .ref nb])
def oT (lp nr : Nat) : va_E := .inr (6, [.ref lp, .ref nr])
def oJ (w : Int32) (ja jr : Nat) : va_E := .inr (3, [.int w, .ref ja, .ref jr])
def oI (G : gG) (n : Nat) (f : Nat → Int32) : va_E := .inl (G.2 0, n, .inl f)
def oX (ta tb j sa : Nat) : va_E := .inr (7, [.ref ta, .ref tb, .ref j, .ref sa])
def oF (hs ta tb j : Nat) : va_E := .inr (2, [.ref hs, .ref ta, .ref tb, .ref j])
def v0E : vE := (false, false, false, 0, -1, 0, 0, 0)
def v0R : vR := (false, 0, -1, 0)
set_option maxHeartbeats 4000000 in
set_option maxRecDepth 100000 in
theorem c_X4_listOf (l : Launch) (G : gG) (dce sz : Nat) (M : gM) (hs la lb nb : Nat) (hv : M hs = some (oS la lb nb)) (kd : Int32) : mR l yX4_listOf wsX4_listOf ({ frames := 0, cells := 0, slots := 0, locals := 0 }) G dce sz M [.ref hs, .int kd] (fun r M' => r = (if kd = 0 then la else lb) ∧ M' = M) (0) (0) := by
  have hv : M hs = some (.inr (5, [.ref la, .ref lb, .ref nb])) := hv
  refine wMet (Qc := QR G _) (cc := cX4_listOf) (maxL := 2) (ret := (some (.object "java/util/ArrayList"))) (by decide) rfl (Nat.le_of_ble_eq_true rfl) ?_
  intro p e s m below meth c A ls X hnm hw hK hZ hA hS hsz eA hl
  obtain ⟨hx, hb, hr, hts, hown, hlk, hml⟩ := id X
  have hl : lv_has ls 2 [(0, .ref hs), (1, .int kd)] := hl
  have iX4 : ∀ w ∈ wsX40, w ∈ wsX4_listOf := by decide +kernel
  refine lv_iload_n hx hb dX4_listOf_0 rfl (lv_at hl 1 rfl) ?_
  refine lv_if_ne (tgt := 11) hx hb dX4_listOf_1 (by decide) (fun c_1 => ?_) (fun c_1 => ?_)
  · refine lv_aload_n hx hb dX4_listOf_11 rfl (lv_at hl 0 rfl) ?_
    refine m_get X iX4 hK hw hv rfl 1 (by decide) (ref := "ObjectMapper$Session") (by decide +kernel) (Or.inl rfl) rfl dX4_listOf_12 ?_
    exact m_aret X (Or.inl ⟨_, rfl⟩) hK hw hS (by refine ⟨?_, rfl⟩; simp_all) (by omega) (by omega) dX4_listOf_15
  · refine lv_aload_n hx hb dX4_listOf_4 rfl (lv_at hl 0 rfl) ?_
    refine m_get X iX4 hK hw hv rfl 0 (by decide) (ref := "ObjectMapper$Session") (by decide +kernel) (Or.inl rfl) rfl dX4_listOf_5 ?_
    refine lv_goto (tgt := 15) hx hb dX4_listOf_8 (by decide) ?_
    exact m_aret X (Or.inl ⟨_, rfl⟩) hK hw hS (by refine ⟨?_, rfl⟩; simp_all) (by omega) (by omega) dX4_listOf_15
set_option maxHeartbeats 4000000 in
set_option maxRecDepth 100000 in
theorem c_X4_sizeOf (l : Launch) (G : gG) (dce sz : Nat) (M : gM) (hs la lb nb : Nat) (hv : M hs = some (oS la lb nb)) (kd : Int32) (mc n : Int32) (ex : Nat) (hli : M (if kd = 0 then la else lb) = some (oL mc ex n)) : mI l yX4_sizeOf wsX4_sizeOf ({ frames := 1, cells := 0, slots := 0, locals := 21 }) G dce sz M [.ref hs, .int kd] (fun r M' => r = n ∧ M' = M) (0) (0) := by
  have hv : M hs = some (.inr (5, [.ref la, .ref lb, .ref nb])) := hv
  have hli : M (if kd = 0 then la else lb) = some (.inr (0, [.int mc, .ref ex, .int n])) := hli
  refine wMet (Qc := QI G _) (cc := cX4_sizeOf) (maxL := 2) (ret := (some .int)) (by decide) rfl (Nat.le_of_ble_eq_true rfl) ?_
  intro p e s m below meth c A ls X hnm hw hK hZ hA hS hsz eA hl
  obtain ⟨hx, hb, hr, hts, hown, hlk, hml⟩ := id X
  have hl : lv_has ls 2 [(0, .ref hs), (1, .int kd)] := hl
  refine lv_aload_n hx hb dX4_sizeOf_0 rfl (lv_at hl 0 rfl) ?_
  refine lv_iload_n hx hb dX4_sizeOf_1 rfl (lv_at hl 1 rfl) ?_
  refine m_callVr X (ci := 5) rfl hv hK hw hZ hS hA (As := [.int kd]) (rest := []) (c_X4_listOf l G dce _ M hs la lb nb hv kd) (cwV 1 hts gX4_sizeOf_X4_listOf rfl rfl rfl (by decide +kernel) ⟨Nat.le_of_ble_eq_true rfl, Nat.le_of_ble_eq_true rfl⟩) rfl hl.1 rfl (Nat.le_of_ble_eq_true rfl) dX4_sizeOf_2 (Nat.le_of_ble_eq_true rfl) (Nat.le_of_ble_eq_true rfl) (fun r2 M1 H locs hp hw hS hz hk => ?_)
  rw [hp.2] at hw
  have er2 := hp.1
  subst er2
  refine m_callVi X (ci := 0) rfl hli hK hw hZ hS hA (As := []) (rest := []) (c_Jx4a65c_size_8abf5 l G dce _ M (if kd = 0 then la else lb) ex mc n hli) (cwV 0 hts gX4_sizeOf_Jx4a65c_size_8abf5 rfl rfl rfl (by decide +kernel) ⟨Nat.le_of_ble_eq_true rfl, Nat.le_of_ble_eq_true rfl⟩) rfl hl.1 rfl (Nat.le_of_ble_eq_true rfl) dX4_sizeOf_5 (Nat.le_of_ble_eq_true rfl) (Nat.le_of_ble_eq_true rfl) (fun r4 M3 H locs hp hw hS hz hk => ?_)
  rw [hp.2] at hw
  have er4 := hp.1
  subst er4
  exact m_iret X hK hw hS (by exact ⟨rfl, rfl⟩) (by omega) (by omega) dX4_sizeOf_8
set_option maxHeartbeats 4000000 in
set_option maxRecDepth 100000 in
theorem c_X4_entityAt_out (l : Launch) (G : gG) (dce sz : Nat) (M : gM) (hs la lb nb : Nat) (hv : M hs = some (oS la lb nb)) (kd : Int32) (mc n : Int32) (ex : Nat) (hli : M (if kd = 0 then la else lb) = some (oL mc ex n)) (ky : Int32) (hout : ky < 0 ∨ n ≤ ky) : mR l yX4_entityAt wsX4_entityAt ({ frames := 1, cells := 0, slots := 0, locals := 21 }) G dce sz M [.ref hs, .int kd, .int ky] (fun r M' => r = nb ∧ M' = M) (0) (0) := by
  have hv : M hs = some (.inr (5, [.ref la, .ref lb, .ref nb])) := hv
  have hli : M (if kd = 0 then la else lb) = some (.inr (0, [.int mc, .ref ex, .int n])) := hli
  refine wMet (Qc := QR G _) (cc := cX4_entityAt) (maxL := 4) (ret := (some (.object "ObjectMapper$Entity"))) (by decide) rfl (Nat.le_of_ble_eq_true rfl) ?_
  intro p e s m below meth c A ls X hnm hw hK hZ hA hS hsz eA hl
  obtain ⟨hx, hb, hr, hts, hown, hlk, hml⟩ := id X
  have hl : lv_has ls 4 [(0, .ref hs), (1, .int kd), (2, .int ky)] := hl
  have iX4 : ∀ w ∈ wsX40, w ∈ wsX4_entityAt := by decide +kernel
  refine lv_aload_n hx hb dX4_entityAt_0 rfl (lv_at hl 0 rfl) ?_
  refine lv_iload_n hx hb dX4_entityAt_1 rfl (lv_at hl 1 rfl) ?_
  refine m_callVr X (ci := 5) rfl hv hK hw hZ hS hA (As := [.int kd]) (rest := []) (c_X4_listOf l G dce _ M hs la lb nb hv kd) (cwV 1 hts gX4_entityAt_X4_listOf rfl rfl rfl (by decide +kernel) ⟨Nat.le_of_ble_eq_true rfl, Nat.le_of_ble_eq_true rfl⟩) rfl hl.1 rfl (Nat.le_of_ble_eq_true rfl) dX4_entityAt_2 (Nat.le_of_ble_eq_true rfl) (Nat.le_of_ble_eq_true rfl) (fun r2 M1 H locs hp hw hS hz hk => ?_)
  rw [hp.2] at hw
  have er2 := hp.1
  subst er2
  refine lv_astore_n (lv' := [(3, .ref (if kd = 0 then la else lb)), (0, .ref hs), (1, .int kd), (2, .int ky)]) hx hb dX4_entityAt_5 rfl hl (by decide) rfl (fun ls hl => ?_)
  refine lv_iload_n hx hb dX4_entityAt_6 rfl (lv_at hl 3 rfl) ?_
  refine lv_if_lt (tgt := 18) hx hb dX4_entityAt_7 (by decide) (fun c_7 => ?_) (fun c_7 => ?_)
  · refine lv_aload_n hx hb dX4_entityAt_18 rfl (lv_at hl 1 rfl) ?_
    refine m_get X iX4 hK hw hv rfl 2 (by decide) (ref := "ObjectMapper$Session") (by decide +kernel) (Or.inl rfl) rfl dX4_entityAt_19 ?_
    exact m_aret X (Or.inl ⟨_, rfl⟩) hK hw hS (by exact ⟨rfl, rfl⟩) (by omega) (by omega) dX4_entityAt_22
  · refine lv_iload_n hx hb dX4_entityAt_10 rfl (lv_at hl 3 rfl) ?_
    refine lv_aload_n hx hb dX4_entityAt_11 rfl (lv_at hl 0 rfl) ?_
    refine m_callVi X (ci := 0) rfl hli hK hw hZ hS hA (As := []) (rest := [.int ky]) (c_Jx4a65c_size_8abf5 l G dce _ M (if kd = 0 then la else lb) ex mc n hli) (cwV 0 hts gX4_entityAt_Jx4a65c_size_8abf5 rfl rfl rfl (by decide +kernel) ⟨Nat.le_of_ble_eq_true rfl, Nat.le_of_ble_eq_true rfl⟩) rfl hl.1 rfl (Nat.le_of_ble_eq_true rfl) dX4_entityAt_12 (Nat.le_of_ble_eq_true rfl) (Nat.le_of_ble_eq_true rfl) (fun r4 M3 H locs hp hw hS hz hk => ?_)
    rw [hp.2] at hw
    have er4 := hp.1
    subst er4
    refine lv_icmp_lt (tgt := 23) hx hb dX4_entityAt_15 (by decide) (fun c_15 => ?_) (fun c_15 => ?_)
    · exact (by exfalso; rcases hout with q | q; · exact c_7 q; · exact absurd c_15 (Int32.not_lt.mpr q))
    · refine lv_aload_n hx hb dX4_entityAt_18 rfl (lv_at hl 1 rfl) ?_
      refine m_get X iX4 hK hw hv rfl 2 (by decide) (ref := "ObjectMapper$Session") (by decide +kernel) (Or.inl rfl) rfl dX4_entityAt_19 ?_
      exact m_aret X (Or.inl ⟨_, rfl⟩) hK hw hS (by exact ⟨rfl, rfl⟩) (by omega) (by omega) dX4_entityAt_22
set_option maxHeartbeats 4000000 in
set_option maxRecDepth 100000 in
theorem c_X4_entityAt_in (l : Launch) (G : gG) (dce sz : Nat) (M : gM) (hs la lb nb : Nat) (hv : M hs = some (oS la lb nb)) (kd : Int32) (mc : Int32) (n k cap a ex : Nat) (g : Nat → Option Nat) (w : vE) (hli : M (if kd = 0 then la else lb) = some (oL mc ex (nI n))) (hex : M ex = some (oA G cap g)) (hk0 : k < n) (hnc : n ≤ cap) (hcap : cap ≤ 2048) (hg : g k = some a) (hwe : M a = some (eE w)) : mR l yX4_entityAt wsX4_entityAt ({ frames := 3, cells := 0, slots := 0, locals := 64 }) G dce sz M [.ref hs, .int kd, .int (nI k)] (fun r M' => r = a ∧ M' = M) (0) (0) := by
  have hv : M hs = some (.inr (5, [.ref la, .ref lb, .ref nb])) := hv
  obtain ⟨b1, b2, b3, nm, rf, sn, sr, sv⟩ := w
  have hwe : M a = some (.inr (1, [.int (bI b1), .int (bI b2), .int (bI b3), .int nm, .int rf, .int sn, .int sr, .int sv])) := hwe
  have hli : M (if kd = 0 then la else lb) = some (.inr (0, [.int mc, .ref ex, .int (nI n)])) := hli
  refine wMet (Qc := QR G _) (cc := cX4_entityAt) (maxL := 4) (ret := (some (.object "ObjectMapper$Entity"))) (by decide) rfl (Nat.le_of_ble_eq_true rfl) ?_
  intro p e s m below meth c A ls X hnm hw hK hZ hA hS hsz eA hl
  obtain ⟨hx, hb, hr, hts, hown, hlk, hml⟩ := id X
  have hl : lv_has ls 4 [(0, .ref hs), (1, .int kd), (2, .int (nI k))] := hl
  refine lv_aload_n hx hb dX4_entityAt_0 rfl (lv_at hl 0 rfl) ?_
  refine lv_iload_n hx hb dX4_entityAt_1 rfl (lv_at hl 1 rfl) ?_
  refine m_callVr X (ci := 5) rfl hv hK hw hZ hS hA (As := [.int kd]) (rest := []) (c_X4_listOf l G dce _ M hs la lb nb hv kd) (cwV 1 hts gX4_entityAt_X4_listOf rfl rfl rfl (by decide +kernel) ⟨Nat.le_of_ble_eq_true rfl, Nat.le_of_ble_eq_true rfl⟩) rfl hl.1 rfl (Nat.le_of_ble_eq_true rfl) dX4_entityAt_2 (Nat.le_of_ble_eq_true rfl) (Nat.le_of_ble_eq_true rfl) (fun r2 M1 H locs hp hw hS hz hk => ?_)
  rw [hp.2] at hw
  have er2 := hp.1
  subst er2
  refine lv_astore_n (lv' := [(3, .ref (if kd = 0 then la else lb)), (0, .ref hs), (1, .int kd), (2, .int (nI k))]) hx hb dX4_entityAt_5 rfl hl (by decide) rfl (fun ls hl => ?_)
  refine lv_iload_n hx hb dX4_entityAt_6 rfl (lv_at hl 3 rfl) ?_
  refine lv_if_lt (tgt := 18) hx hb dX4_entityAt_7 (by decide) (fun c_7 => ?_) (fun c_7 => ?_)
  · exact (by exfalso; first | exact absurd c_7 (nI_pos (by omega)) | exact c_15 (nI_lt hk0 (by omega)))
  · refine lv_iload_n hx hb dX4_entityAt_10 rfl (lv_at hl 3 rfl) ?_
    refine lv_aload_n hx hb dX4_entityAt_11 rfl (lv_at hl 0 rfl) ?_
    refine m_callVi X (ci := 0) rfl hli hK hw hZ hS hA (As := []) (rest := [.int (nI k)]) (c_Jx4a65c_size_8abf5 l G dce _ M (if kd = 0 then la else lb) ex mc (nI n) hli) (cwV 0 hts gX4_entityAt_Jx4a65c_size_8abf5 rfl rfl rfl (by decide +kernel) ⟨Nat.le_of_ble_eq_true rfl, Nat.le_of_ble_eq_true rfl⟩) rfl hl.1 rfl (Nat.le_of_ble_eq_true rfl) dX4_entityAt_12 (Nat.le_of_ble_eq_true rfl) (Nat.le_of_ble_eq_true rfl) (fun r4 M3 H locs hp hw hS hz hk => ?_)
    rw [hp.2] at hw
    have er4 := hp.1
    subst er4
    refine lv_icmp_lt (tgt := 23) hx hb dX4_entityAt_15 (by decide) (fun c_15 => ?_) (fun c_15 => ?_)
    · refine lv_aload_n hx hb dX4_entityAt_23 rfl (lv_at hl 0 rfl) ?_
      refine lv_iload_n hx hb dX4_entityAt_24 rfl (lv_at hl 3 rfl) ?_
      refine m_callVr X (ci := 0) rfl hli hK hw hZ hS hA (As := [.int (nI k)]) (rest := []) (c_Jx4a65c_get_915e3 l G dce _ M (if kd = 0 then la else lb) ex k n cap a mc g hli hex hk0 hnc hcap hg) (cwV 1 hts gX4_entityAt_Jx4a65c_get_915e3 rfl rfl rfl (by decide +kernel) ⟨Nat.le_of_ble_eq_true rfl, Nat.le_of_ble_eq_true rfl⟩) rfl hl.1 rfl (Nat.le_of_ble_eq_true rfl) dX4_entityAt_25 (Nat.le_of_ble_eq_true rfl) (Nat.le_of_ble_eq_true rfl) (fun r6 M5 H locs hp hw hS hz hk => ?_)
      rw [hp.2] at hw
      have er6 := hp.1
      subst er6
      refine m_cast X (by decide +kernel) hK hw hwe (ci := 1) rfl dX4_entityAt_28 ?_
      exact m_aret X (Or.inl ⟨_, rfl⟩) hK hw hS (by exact ⟨rfl, rfl⟩) (by omega) (by omega) dX4_entityAt_31
    · exact (by exfalso; first | exact absurd c_7 (nI_pos (by omega)) | exact c_15 (nI_lt hk0 (by omega)))
set_option maxHeartbeats 4000000 in
set_option maxRecDepth 100000 in
theorem c_X5_size (l : Launch) (G : gG) (dce sz : Nat) (M : gM) (ht lp nr : Nat) (hv : M ht = some (oT lp nr)) (mc n : Int32) (ex : Nat) (hli : M lp = some (oL mc ex n)) : mI l yX5_size wsX5_size ({ frames := 1, cells := 0, slots := 0, locals := 20 }) G dce sz M [.ref ht] (fun r M' => r = n ∧ M' = M) (0) (0) := by
  have hv : M ht = some (.inr (6, [.ref lp, .ref nr])) := hv
  have hli : M lp = some (.inr (0, [.int mc, .ref ex, .int n])) := hli
  refine wMet (Qc := QI G _) (cc := cX5_size) (maxL := 1) (ret := (some .int)) (by decide) rfl (Nat.le_of_ble_eq_true rfl) ?_
  intro p e s m below meth c A ls X hnm hw hK hZ hA hS hsz eA hl
  obtain ⟨hx, hb, hr, hts, hown, hlk, hml⟩ := id X
  have hl : lv_has ls 1 [(0, .ref ht)] := hl
  have iX5 : ∀ w ∈ wsX50, w ∈ wsX5_size := by decide +kernel
  refine lv_aload_n hx hb dX5_size_0 rfl (lv_at hl 0 rfl) ?_
  refine m_get X iX5 hK hw hv rfl 0 (by decide) (ref := "ObjectMapper$Table") (by decide +kernel) (Or.inl rfl) rfl dX5_size_1 ?_
  refine m_callVi X (ci := 0) rfl hli hK hw hZ hS hA (As := []) (rest := []) (c_Jx4a65c_size_8abf5 l G dce _ M lp ex mc n hli) (cwV 0 hts gX5_size_Jx4a65c_size_8abf5 rfl rfl rfl (by decide +kernel) ⟨Nat.le_of_ble_eq_true rfl, Nat.le_of_ble_eq_true rfl⟩) rfl hl.1 rfl (Nat.le_of_ble_eq_true rfl) dX5_size_4 (Nat.le_of_ble_eq_true rfl) (Nat.le_of_ble_eq_true rfl) (fun r2 M1 H locs hp hw hS hz hk => ?_)
  rw [hp.2] at hw
  have er2 := hp.1
  subst er2
  exact m_iret X hK hw hS (by exact ⟨rfl, rfl⟩) (by omega) (by omega) dX5_size_7
set_option maxHeartbeats 4000000 in
set_option maxRecDepth 100000 in
theorem c_X5_rowAt_out (l : Launch) (G : gG) (dce sz : Nat) (M : gM) (ht lp nr : Nat) (hv : M ht = some (oT lp nr)) (mc n : Int32) (ex : Nat) (hli : M lp = some (oL mc ex n)) (ky : Int32) (hout : ky < 0 ∨ n ≤ ky) : mR l yX5_rowAt wsX5_rowAt ({ frames := 1, cells := 0, slots := 0, locals := 20 }) G dce sz M [.ref ht, .int ky] (fun r M' => r = nr ∧ M' = M) (0) (0) := by
  have hv : M ht = some (.inr (6, [.ref lp, .ref nr])) := hv
  have hli : M lp = some (.inr (0, [.int mc, .ref ex, .int n])) := hli
  refine wMet (Qc := QR G _) (cc := cX5_rowAt) (maxL := 2) (ret := (some (.object "ObjectMapper$Row"))) (by decide) rfl (Nat.le_of_ble_eq_true rfl) ?_
  intro p e s m below meth c A ls X hnm hw hK hZ hA hS hsz eA hl
  obtain ⟨hx, hb, hr, hts, hown, hlk, hml⟩ := id X
  have hl : lv_has ls 2 [(0, .ref ht), (1, .int ky)] := hl
  have iX5 : ∀ w ∈ wsX50, w ∈ wsX5_rowAt := by decide +kernel
  refine lv_iload_n hx hb dX5_rowAt_0 rfl (lv_at hl 1 rfl) ?_
  refine lv_if_lt (tgt := 15) hx hb dX5_rowAt_1 (by decide) (fun c_1 => ?_) (fun c_1 => ?_)
  · refine lv_aload_n hx hb dX5_rowAt_15 rfl (lv_at hl 0 rfl) ?_
    refine m_get X iX5 hK hw hv rfl 1 (by decide) (ref := "ObjectMapper$Table") (by decide +kernel) (Or.inl rfl) rfl dX5_rowAt_16 ?_
    exact m_aret X (Or.inl ⟨_, rfl⟩) hK hw hS (by exact ⟨rfl, rfl⟩) (by omega) (by omega) dX5_rowAt_19
  · refine lv_iload_n hx hb dX5_rowAt_4 rfl (lv_at hl 1 rfl) ?_
    refine lv_aload_n hx hb dX5_rowAt_5 rfl (lv_at hl 0 rfl) ?_
    refine m_get X iX5 hK hw hv rfl 0 (by decide) (ref := "ObjectMapper$Table") (by decide +kernel) (Or.inl rfl) rfl dX5_rowAt_6 ?_
    refine m_callVi X (ci := 0) rfl hli hK hw hZ hS hA (As := []) (rest := [.int ky]) (c_Jx4a65c_size_8abf5 l G dce _ M lp ex mc n hli) (cwV 0 hts gX5_rowAt_Jx4a65c_size_8abf5 rfl rfl rfl (by decide +kernel) ⟨Nat.le_of_ble_eq_true rfl, Nat.le_of_ble_eq_true rfl⟩) rfl hl.1 rfl (Nat.le_of_ble_eq_true rfl) dX5_rowAt_9 (Nat.le_of_ble_eq_true rfl) (Nat.le_of_ble_eq_true rfl) (fun r2 M1 H locs hp hw hS hz hk => ?_)
    rw [hp.2] at hw
    have er2 := hp.1
    subst er2
    refine lv_icmp_lt (tgt := 20) hx hb dX5_rowAt_12 (by decide) (fun c_12 => ?_) (fun c_12 => ?_)
    · exact (by exfalso; rcases hout with q | q; · exact c_1 q; · exact absurd c_12 (Int32.not_lt.mpr q))
    · refine lv_aload_n hx hb dX5_rowAt_15 rfl (lv_at hl 0 rfl) ?_
      refine m_get X iX5 hK hw hv rfl 1 (by decide) (ref := "ObjectMapper$Table") (by decide +kernel) (Or.inl rfl) rfl dX5_rowAt_16 ?_
      exact m_aret X (Or.inl ⟨_, rfl⟩) hK hw hS (by exact ⟨rfl, rfl⟩) (by omega) (by omega) dX5_rowAt_19
set_option maxHeartbeats 4000000 in
set_option maxRecDepth 100000 in
theorem c_X5_rowAt_in (l : Launch) (G : gG) (dce sz : Nat) (M : gM) (ht lp nr : Nat) (hv : M ht = some (oT lp nr)) (mc : Int32) (n k cap a ex : Nat) (g : Nat → Option Nat) (w : vR) (hli : M lp = some (oL mc ex (nI n))) (hex : M ex = some (oA G cap g)) (hk0 : k < n) (hnc : n ≤ cap) (hcap : cap ≤ 2048) (hg : g k = some a) (hwe : M a = some (eR w)) : mR l yX5_rowAt wsX5_rowAt ({ frames := 3, cells := 0, slots := 0, locals := 64 }) G dce sz M [.ref ht, .int (nI k)] (fun r M' => r = a ∧ M' = M) (0) (0) := by
  have hv : M ht = some (.inr (6, [.ref lp, .ref nr])) := hv
  obtain ⟨rb, rn, rr, rv⟩ := w
  have hwe : M a = some (.inr (4, [.int (bI rb), .int rn, .int rr, .int rv])) := hwe
  have hli : M lp = some (.inr (0, [.int mc, .ref ex, .int (nI n)])) := hli
  refine wMet (Qc := QR G _) (cc := cX5_rowAt) (maxL := 2) (ret := (some (.object "ObjectMapper$Row"))) (by decide) rfl (Nat.le_of_ble_eq_true rfl) ?_
  intro p e s m below meth c A ls X hnm hw hK hZ hA hS hsz eA hl
  obtain ⟨hx, hb, hr, hts, hown, hlk, hml⟩ := id X
  have hl : lv_has ls 2 [(0, .ref ht), (1, .int (nI k))] := hl
  have iX5 : ∀ w ∈ wsX50, w ∈ wsX5_rowAt := by decide +kernel
  refine lv_iload_n hx hb dX5_rowAt_0 rfl (lv_at hl 1 rfl) ?_
  refine lv_if_lt (tgt := 15) hx hb dX5_rowAt_1 (by decide) (fun c_1 => ?_) (fun c_1 => ?_)
  · exact (by exfalso; first | exact absurd c_1 (nI_pos (by omega)) | exact c_12 (nI_lt hk0 (by omega)))
  · refine lv_iload_n hx hb dX5_rowAt_4 rfl (lv_at hl 1 rfl) ?_
    refine lv_aload_n hx hb dX5_rowAt_5 rfl (lv_at hl 0 rfl) ?_
    refine m_get X iX5 hK hw hv rfl 0 (by decide) (ref := "ObjectMapper$Table") (by decide +kernel) (Or.inl rfl) rfl dX5_rowAt_6 ?_
    refine m_callVi X (ci := 0) rfl hli hK hw hZ hS hA (As := []) (rest := [.int (nI k)]) (c_Jx4a65c_size_8abf5 l G dce _ M lp ex mc (nI n) hli) (cwV 0 hts gX5_rowAt_Jx4a65c_size_8abf5 rfl rfl rfl (by decide +kernel) ⟨Nat.le_of_ble_eq_true rfl, Nat.le_of_ble_eq_true rfl⟩) rfl hl.1 rfl (Nat.le_of_ble_eq_true rfl) dX5_rowAt_9 (Nat.le_of_ble_eq_true rfl) (Nat.le_of_ble_eq_true rfl) (fun r2 M1 H locs hp hw hS hz hk => ?_)
    rw [hp.2] at hw
    have er2 := hp.1
    subst er2
    refine lv_icmp_lt (tgt := 20) hx hb dX5_rowAt_12 (by decide) (fun c_12 => ?_) (fun c_12 => ?_)
    · refine lv_aload_n hx hb dX5_rowAt_20 rfl (lv_at hl 0 rfl) ?_
      refine m_get X iX5 hK hw hv rfl 0 (by decide) (ref := "ObjectMapper$Table") (by decide +kernel) (Or.inl rfl) rfl dX5_rowAt_21 ?_
      refine lv_iload_n hx hb dX5_rowAt_24 rfl (lv_at hl 1 rfl) ?_
      refine m_callVr X (ci := 0) rfl hli hK hw hZ hS hA (As := [.int (nI k)]) (rest := []) (c_Jx4a65c_get_915e3 l G dce _ M lp ex k n cap a mc g hli hex hk0 hnc hcap hg) (cwV 1 hts gX5_rowAt_Jx4a65c_get_915e3 rfl rfl rfl (by decide +kernel) ⟨Nat.le_of_ble_eq_true rfl, Nat.le_of_ble_eq_true rfl⟩) rfl hl.1 rfl (Nat.le_of_ble_eq_true rfl) dX5_rowAt_25 (Nat.le_of_ble_eq_true rfl) (Nat.le_of_ble_eq_true rfl) (fun r4 M3 H locs hp hw hS hz hk => ?_)
      rw [hp.2] at hw
      have er4 := hp.1
      subst er4
      refine m_cast X (by decide +kernel) hK hw hwe (ci := 4) rfl dX5_rowAt_28 ?_
      exact m_aret X (Or.inl ⟨_, rfl⟩) hK hw hS (by exact ⟨rfl, rfl⟩) (by omega) (by omega) dX5_rowAt_31
    · exact (by exfalso; first | exact absurd c_1 (nI_pos (by omega)) | exact c_12 (nI_lt hk0 (by omega)))
set_option maxHeartbeats 4000000 in
set_option maxRecDepth 100000 in
theorem c_X4_countLive_0 (l : Launch) (G : gG) (dce sz : Nat) (M : gM) (hs la lb nb : Nat) (hv : M hs = some (oS la lb nb)) (kd : Int32) (mc : Int32) (ex : Nat) (hli : M (if kd = 0 then la else lb) = some (oL mc ex 0)) : mI l yX4_countLive wsX4_countLive ({ frames := 2, cells := 0, slots := 0, locals := 42 }) G dce sz M [.ref hs, .int kd] (fun r M' => r = 0 ∧ M' = M) (0) (0) := by
  have hv : M hs = some (.inr (5, [.ref la, .ref lb, .ref nb])) := hv
  have hli : M (if kd = 0 then la else lb) = some (.inr (0, [.int mc, .ref ex, .int 0])) := hli
  refine wMet (Qc := QI G _) (cc := cX4_countLive) (maxL := 4) (ret := (some .int)) (by decide) rfl (Nat.le_of_ble_eq_true rfl) ?_
  intro p e s m below meth c A ls X hnm hw hK hZ hA hS hsz eA hl
  obtain ⟨hx, hb, hr, hts, hown, hlk, hml⟩ := id X
  have hl : lv_has ls 4 [(0, .ref hs), (1, .int kd)] := hl
  refine lv_iconst (v := 0) hx hb dX4_countLive_0 (by decide) ?_
  refine lv_istore_n (lv' := [(2, .int 0), (0, .ref hs), (1, .int kd)]) hx hb dX4_countLive_1 rfl hl (by decide) rfl (fun ls hl => ?_)
  refine lv_iconst (v := 0) hx hb dX4_countLive_2 (by decide) ?_
  refine lv_istore_n (lv' := [(3, .int 0), (2, .int 0), (0, .ref hs), (1, .int kd)]) hx hb dX4_countLive_3 rfl hl (by decide) rfl (fun ls hl => ?_)
  refine lv_iload_n hx hb dX4_countLive_4 rfl (lv_at hl 0 rfl) ?_
  refine lv_aload_n hx hb dX4_countLive_5 rfl (lv_at hl 2 rfl) ?_
  refine lv_iload_n hx hb dX4_countLive_6 rfl (lv_at hl 3 rfl) ?_
  refine m_callVi X (ci := 5) rfl hv hK hw hZ hS hA (As := [.int kd]) (rest := [.int 0]) (c_X4_sizeOf l G dce _ M hs la lb nb hv kd mc 0 ex hli) (cwV 1 hts gX4_countLive_X4_sizeOf rfl rfl rfl (by decide +kernel) ⟨Nat.le_of_ble_eq_true rfl, Nat.le_of_ble_eq_true rfl⟩) rfl hl.1 rfl (Nat.le_of_ble_eq_true rfl) dX4_countLive_7 (Nat.le_of_ble_eq_true rfl) (Nat.le_of_ble_eq_true rfl) (fun r2 M1 H locs hp hw hS hz hk => ?_)
  rw [hp.2] at hw
  have er2 := hp.1
  subst er2
  refine lv_icmp_ge (tgt := 34) hx hb dX4_countLive_10 (by decide) (fun c_10 => ?_) (fun c_10 => ?_)
  · refine lv_iload_n hx hb dX4_countLive_34 rfl (lv_at hl 1 rfl) ?_
    exact m_iret X hK hw hS (by exact ⟨rfl, rfl⟩) (by omega) (by omega) dX4_countLive_35
  · exact (by exfalso; exact c_10 (by decide))
set_option maxHeartbeats 4000000 in
set_option maxRecDepth 100000 in
theorem c_X4_countLiveAndDirty_0 (l : Launch) (G : gG) (dce sz : Nat) (M : gM) (hs la lb nb : Nat) (hv : M hs = some (oS la lb nb)) (kd : Int32) (mc : Int32) (ex : Nat) (hli : M (if kd = 0 then la else lb) = some (oL mc ex 0)) : mI l yX4_countLiveAndDirty wsX4_countLiveAndDirty ({ frames := 2, cells := 0, slots := 0, locals := 42 }) G dce sz M [.ref hs, .int kd] (fun r M' => r = 0 ∧ M' = M) (0) (0) := by
  have hv : M hs = some (.inr (5, [.ref la, .ref lb, .ref nb])) := hv
  have hli : M (if kd = 0 then la else lb) = some (.inr (0, [.int mc, .ref ex, .int 0])) := hli
  refine wMet (Qc := QI G _) (cc := cX4_countLiveAndDirty) (maxL := 5) (ret := (some .int)) (by decide) rfl (Nat.le_of_ble_eq_true rfl) ?_
  intro p e s m below meth c A ls X hnm hw hK hZ hA hS hsz eA hl
  obtain ⟨hx, hb, hr, hts, hown, hlk, hml⟩ := id X
  have hl : lv_has ls 5 [(0, .ref hs), (1, .int kd)] := hl
  refine lv_iconst (v := 0) hx hb dX4_countLiveAndDirty_0 (by decide) ?_
  refine lv_istore_n (lv' := [(2, .int 0), (0, .ref hs), (1, .int kd)]) hx hb dX4_countLiveAndDirty_1 rfl hl (by decide) rfl (fun ls hl => ?_)
  refine lv_iconst (v := 0) hx hb dX4_countLiveAndDirty_2 (by decide) ?_
  refine lv_istore_n (lv' := [(3, .int 0), (2, .int 0), (0, .ref hs), (1, .int kd)]) hx hb dX4_countLiveAndDirty_3 rfl hl (by decide) rfl (fun ls hl => ?_)
  refine lv_iload_n hx hb dX4_countLiveAndDirty_4 rfl (lv_at hl 0 rfl) ?_
  refine lv_aload_n hx hb dX4_countLiveAndDirty_5 rfl (lv_at hl 2 rfl) ?_
  refine lv_iload_n hx hb dX4_countLiveAndDirty_6 rfl (lv_at hl 3 rfl) ?_
  refine m_callVi X (ci := 5) rfl hv hK hw hZ hS hA (As := [.int kd]) (rest := [.int 0]) (c_X4_sizeOf l G dce _ M hs la lb nb hv kd mc 0 ex hli) (cwV 1 hts gX4_countLiveAndDirty_X4_sizeOf rfl rfl rfl (by decide +kernel) ⟨Nat.le_of_ble_eq_true rfl, Nat.le_of_ble_eq_true rfl⟩) rfl hl.1 rfl (Nat.le_of_ble_eq_true rfl) dX4_countLiveAndDirty_7 (Nat.le_of_ble_eq_true rfl) (Nat.le_of_ble_eq_true rfl) (fun r2 M1 H locs hp hw hS hz hk => ?_)
  rw [hp.2] at hw
  have er2 := hp.1
  subst er2
  refine lv_icmp_ge (tgt := 46) hx hb dX4_countLiveAndDirty_10 (by decide) (fun c_10 => ?_) (fun c_10 => ?_)
  · refine lv_iload_n hx hb dX4_countLiveAndDirty_46 rfl (lv_at hl 1 rfl) ?_
    exact m_iret X hK hw hS (by exact ⟨rfl, rfl⟩) (by omega) (by omega) dX4_countLiveAndDirty_47
  · exact (by exfalso; exact c_10 (by decide))
set_option maxHeartbeats 4000000 in
set_option maxRecDepth 100000 in
theorem c_X4_forgetAll_0 (l : Launch) (G : gG) (dce sz : Nat) (M : gM) (hs la lb nb : Nat) (hv : M hs = some (oS la lb nb)) (kd : Int32) (mc : Int32) (ex : Nat) (hli : M (if kd = 0 then la else lb) = some (oL mc ex 0)) : mV l yX4_forgetAll wsX4_forgetAll ({ frames := 2, cells := 0, slots := 0, locals := 42 }) G dce sz M [.ref hs, .int kd] (fun M' => M' = M) (0) (0) := by
  have hv : M hs = some (.inr (5, [.ref la, .ref lb, .ref nb])) := hv
  have hli : M (if kd = 0 then la else lb) = some (.inr (0, [.int mc, .ref ex, .int 0])) := hli
  refine wMet (Qc := QV G _) (cc := cX4_forgetAll) (maxL := 3) (ret := none) (by decide) rfl (Nat.le_of_ble_eq_true rfl) ?_
  intro p e s m below meth c A ls X hnm hw hK hZ hA hS hsz eA hl
  obtain ⟨hx, hb, hr, hts, hown, hlk, hml⟩ := id X
  have hl : lv_has ls 3 [(0, .ref hs), (1, .int kd)] := hl
  refine lv_iconst (v := 0) hx hb dX4_forgetAll_0 (by decide) ?_
  refine lv_istore_n (lv' := [(2, .int 0), (0, .ref hs), (1, .int kd)]) hx hb dX4_forgetAll_1 rfl hl (by decide) rfl (fun ls hl => ?_)
  refine lv_iload_n hx hb dX4_forgetAll_2 rfl (lv_at hl 0 rfl) ?_
  refine lv_aload_n hx hb dX4_forgetAll_3 rfl (lv_at hl 1 rfl) ?_
  refine lv_iload_n hx hb dX4_forgetAll_4 rfl (lv_at hl 2 rfl) ?_
  refine m_callVi X (ci := 5) rfl hv hK hw hZ hS hA (As := [.int kd]) (rest := [.int 0]) (c_X4_sizeOf l G dce _ M hs la lb nb hv kd mc 0 ex hli) (cwV 1 hts gX4_forgetAll_X4_sizeOf rfl rfl rfl (by decide +kernel) ⟨Nat.le_of_ble_eq_true rfl, Nat.le_of_ble_eq_true rfl⟩) rfl hl.1 rfl (Nat.le_of_ble_eq_true rfl) dX4_forgetAll_5 (Nat.le_of_ble_eq_true rfl) (Nat.le_of_ble_eq_true rfl) (fun r2 M1 H locs hp hw hS hz hk => ?_)
  rw [hp.2] at hw
  have er2 := hp.1
  subst er2
  refine lv_icmp_ge (tgt := 26) hx hb dX4_forgetAll_8 (by decide) (fun c_8 => ?_) (fun c_8 => ?_)
  · exact m_vret X hK hw hS (by rfl) (by omega) (by omega) dX4_forgetAll_26
  · exact (by exfalso; exact c_8 (by decide))
set_option maxHeartbeats 4000000 in
set_option maxRecDepth 100000 in
theorem c_X5_countThere_0 (l : Launch) (G : gG) (dce sz : Nat) (M : gM) (ht lp nr : Nat) (hv : M ht = some (oT lp nr)) (mc : Int32) (ex : Nat) (hli : M lp = some (oL mc ex 0)) : mI l yX5_countThere wsX5_countThere ({ frames := 1, cells := 0, slots := 0, locals := 20 }) G dce sz M [.ref ht] (fun r M' => r = 0 ∧ M' = M) (0) (0) := by
  have hv : M ht = some (.inr (6, [.ref lp, .ref nr])) := hv
  have hli : M lp = some (.inr (0, [.int mc, .ref ex, .int 0])) := hli
  refine wMet (Qc := QI G _) (cc := cX5_countThere) (maxL := 3) (ret := (some .int)) (by decide) rfl (Nat.le_of_ble_eq_true rfl) ?_
  intro p e s m below meth c A ls X hnm hw hK hZ hA hS hsz eA hl
  obtain ⟨hx, hb, hr, hts, hown, hlk, hml⟩ := id X
  have hl : lv_has ls 3 [(0, .ref ht)] := hl
  have iX5 : ∀ w ∈ wsX50, w ∈ wsX5_countThere := by decide +kernel
  refine lv_iconst (v := 0) hx hb dX5_countThere_0 (by decide) ?_
  refine lv_istore_n (lv' := [(1, .int 0), (0, .ref ht)]) hx hb dX5_countThere_1 rfl hl (by decide) rfl (fun ls hl => ?_)
  refine lv_iconst (v := 0) hx hb dX5_countThere_2 (by decide) ?_
  refine lv_istore_n (lv' := [(2, .int 0), (1, .int 0), (0, .ref ht)]) hx hb dX5_countThere_3 rfl hl (by decide) rfl (fun ls hl => ?_)
  refine lv_iload_n hx hb dX5_countThere_4 rfl (lv_at hl 0 rfl) ?_
  refine lv_aload_n hx hb dX5_countThere_5 rfl (lv_at hl 2 rfl) ?_
  refine m_get X iX5 hK hw hv rfl 0 (by decide) (ref := "ObjectMapper$Table") (by decide +kernel) (Or.inl rfl) rfl dX5_countThere_6 ?_
  refine m_callVi X (ci := 0) rfl hli hK hw hZ hS hA (As := []) (rest := [.int 0]) (c_Jx4a65c_size_8abf5 l G dce _ M lp ex mc 0 hli) (cwV 0 hts gX5_countThere_Jx4a65c_size_8abf5 rfl rfl rfl (by decide +kernel) ⟨Nat.le_of_ble_eq_true rfl, Nat.le_of_ble_eq_true rfl⟩) rfl hl.1 rfl (Nat.le_of_ble_eq_true rfl) dX5_countThere_9 (Nat.le_of_ble_eq_true rfl) (Nat.le_of_ble_eq_true rfl) (fun r2 M1 H locs hp hw hS hz hk => ?_)
  rw [hp.2] at hw
  have er2 := hp.1
  subst er2
  refine lv_icmp_ge (tgt := 35) hx hb dX5_countThere_12 (by decide) (fun c_12 => ?_) (fun c_12 => ?_)
  · refine lv_iload_n hx hb dX5_countThere_35 rfl (lv_at hl 1 rfl) ?_
    exact m_iret X hK hw hS (by exact ⟨rfl, rfl⟩) (by omega) (by omega) dX5_countThere_36
  · exact (by exfalso; exact c_12 (by decide))
set_option maxHeartbeats 4000000 in
set_option maxRecDepth 100000 in
theorem c_X2_isFull (l : Launch) (G : gG) (dce sz : Nat) (M : gM) (hj ja jr : Nat) (w : Int32) (hv : M hj = some (oJ w ja jr)) : mI l yX2_isFull wsX2_isFull ({ frames := 0, cells := 0, slots := 0, locals := 0 }) G dce sz M [.ref hj] (fun r M' => r = bI (decide (4096 ≤ w)) ∧ M' = M) (0) (0) := by
  have hv : M hj = some (.inr (3, [.int w, .ref ja, .ref jr])) := hv
  refine wMet (Qc := QI G _) (cc := cX2_isFull) (maxL := 1) (ret := (some .boolean)) (by decide) rfl (Nat.le_of_ble_eq_true rfl) ?_
  intro p e s m below meth c A ls X hnm hw hK hZ hA hS hsz eA hl
  obtain ⟨hx, hb, hr, hts, hown, hlk, hml⟩ := id X
  have hl : lv_has ls 1 [(0, .ref hj)] := hl
  have iX2 : ∀ w ∈ wsX20, w ∈ wsX2_isFull := by decide +kernel
  refine lv_aload_n hx hb dX2_isFull_0 rfl (lv_at hl 0 rfl) ?_
  refine m_get X iX2 hK hw hv rfl 0 (by decide) (ref := "ObjectMapper$Journal") (by decide +kernel) (Or.inl rfl) rfl dX2_isFull_1 ?_
  refine lv_sipush (v := 4096) hx hb dX2_isFull_4 (by decide) ?_
  refine lv_icmp_lt (tgt := 14) hx hb dX2_isFull_7 (by decide) (fun c_7 => ?_) (fun c_7 => ?_)
  · refine lv_iconst (v := 0) hx hb dX2_isFull_14 (by decide) ?_
    exact m_zret X (by decide) hK hw hS (by refine ⟨?_, rfl⟩; simp_all [bI]) (by omega) (by omega) dX2_isFull_15
  · refine lv_iconst (v := 1) hx hb dX2_isFull_10 (by decide) ?_
    refine lv_goto (tgt := 15) hx hb dX2_isFull_11 (by decide) ?_
    exact m_zret X (by decide) hK hw hS (by refine ⟨?_, rfl⟩; simp_all [bI]) (by omega) (by omega) dX2_isFull_15
set_option maxHeartbeats 4000000 in
set_option maxRecDepth 100000 in
theorem c_X1_init (l : Launch) (G : gG) (dce sz : Nat) (M : gM) (h hs ta tb j : Nat) (hv : M h = some (.inr (2, [.null, .null, .null, .null]))) : mV l yX1_init wsX1_init ({ frames := 1, cells := 0, slots := 0, locals := 12 }) G dce sz M [.ref h, .ref hs, .ref ta, .ref tb, .ref j] (fun M' => M' = mu M h (oF hs ta tb j)) (0) (0) := by
  refine wMet (Qc := QV G _) (cc := cX1_init) (maxL := 5) (ret := none) (by decide) rfl (Nat.le_of_ble_eq_true rfl) ?_
  intro p e s m below meth c A ls X hnm hw hK hZ hA hS hsz eA hl
  obtain ⟨hx, hb, hr, hts, hown, hlk, hml⟩ := id X
  have hl : lv_has ls 5 [(0, .ref h), (1, .ref hs), (2, .ref ta), (3, .ref tb), (4, .ref j)] := hl
  have hin : meth.name = "<init>" := hnm
  have iX1 : ∀ w ∈ wsX10, w ∈ wsX1_init := by decide +kernel
  refine lv_aload_n hx hb dX1_init_0 rfl (lv_at hl 0 rfl) ?_
  refine W.objInit hx hb hown (hts (.methodLink RX1 3 objectInit) (by decide +kernel)) (hts (.instanceMethod objectInit) (by decide +kernel)) (hts (.code objectInit ⟨#[0xb1]⟩ 1 none) (by decide +kernel)) rfl (by rw [hml]; exact hl.1) rfl dX1_init_1 (Nat.le_of_ble_eq_true rfl) (Nat.le_of_ble_eq_true rfl) ?_
  refine W.eq (g2 := F0 m 4 ls []) rfl ?_
  refine lv_aload_n hx hb dX1_init_4 rfl (lv_at hl 0 rfl) ?_
  refine lv_aload_n hx hb dX1_init_5 rfl (lv_at hl 1 rfl) ?_
  refine m_putF X iX1 tyX1_ok nmX1 hK hw hS hv rfl 0 (by decide) (ref := "ObjectMapper$Flush") (by decide +kernel) (Or.inl rfl) rfl hin rfl (v := .ref hs) rfl rfl (Nat.le_of_ble_eq_true rfl) (fs1 := [.ref hs, .null, .null, .null]) rfl dX1_init_6 (fun M1 H locs eM1 hw hS => ?_)
  have k2 : M1 h = some (.inr (2, [.ref hs, .null, .null, .null])) := by rw [eM1]; exact mu_s _ _ _
  refine lv_aload_n hx hb dX1_init_9 rfl (lv_at hl 0 rfl) ?_
  refine lv_aload_n hx hb dX1_init_10 rfl (lv_at hl 2 rfl) ?_
  refine m_putF X iX1 tyX1_ok nmX1 hK hw hS k2 rfl 1 (by decide) (ref := "ObjectMapper$Flush") (by decide +kernel) (Or.inl rfl) rfl hin rfl (v := .ref ta) rfl rfl (Nat.le_of_ble_eq_true rfl) (fs1 := [.ref hs, .ref ta, .null, .null]) rfl dX1_init_11 (fun M3 H locs eM3 hw hS => ?_)
  have k4 : M3 h = some (.inr (2, [.ref hs, .ref ta, .null, .null])) := by rw [eM3]; exact mu_s _ _ _
  refine lv_aload_n hx hb dX1_init_14 rfl (lv_at hl 0 rfl) ?_
  refine lv_aload_n hx hb dX1_init_15 rfl (lv_at hl 3 rfl) ?_
  refine m_putF X iX1 tyX1_ok nmX1 hK hw hS k4 rfl 2 (by decide) (ref := "ObjectMapper$Flush") (by decide +kernel) (Or.inl rfl) rfl hin rfl (v := .ref tb) rfl rfl (Nat.le_of_ble_eq_true rfl) (fs1 := [.ref hs, .ref ta, .ref tb, .null]) rfl dX1_init_16 (fun M5 H locs eM5 hw hS => ?_)
  have k6 : M5 h = some (.inr (2, [.ref hs, .ref ta, .ref tb, .null])) := by rw [eM5]; exact mu_s _ _ _
  refine lv_aload_n hx hb dX1_init_19 rfl (lv_at hl 0 rfl) ?_
  refine lv_aload hx hb dX1_init_20 (lv_at hl 4 rfl) ?_
  refine m_putF X iX1 tyX1_ok nmX1 hK hw hS k6 rfl 3 (by decide) (ref := "ObjectMapper$Flush") (by decide +kernel) (Or.inl rfl) rfl hin rfl (v := .ref j) rfl rfl (Nat.le_of_ble_eq_true rfl) (fs1 := [.ref hs, .ref ta, .ref tb, .ref j]) rfl dX1_init_22 (fun M7 H locs eM7 hw hS => ?_)
  have k8 : M7 h = some (.inr (2, [.ref hs, .ref ta, .ref tb, .ref j])) := by rw [eM7]; exact mu_s _ _ _
  exact m_vret X hK hw hS (by subst_vars; simp only [mu_mu]; rfl) (by omega) (by omega) dX1_init_25
end
section
def xNm : List String := ["java/lang/RuntimeException", "java/lang/Exception"]
theorem xng_IAE : ∀ w ∈ (vx_atS RX6 102 "java/lang/IllegalArgumentException" xNm).filter (fun w => !goodWord w), w ∈ [Cond.castable "java/lang/IllegalArgumentException" "java/lang/IllegalArgumentException"] := by decide +kernel
theorem xgd_IAE : ∀ w ∈ Cond.classLink RX6 98 "java/lang/IllegalArgumentException" :: Cond.initialized "java/lang/IllegalArgumentException" :: vx_atS RX6 102 "java/lang/IllegalArgumentException" xNm, vx_ot w = true := by decide +kernel
def xIAE : String := "java/lang/IllegalArgumentException"
theorem xng_ISE : ∀ w ∈ (vx_atS RX6 132 "java/lang/IllegalStateException" xNm).filter (fun w => !goodWord w), w ∈ [Cond.castable "java/lang/IllegalStateException" "java/lang/IllegalStateException"] := by decide +kernel
theorem xgd_ISE : ∀ w ∈ Cond.classLink RX6 128 "java/lang/IllegalStateException" :: Cond.initialized "java/lang/IllegalStateException" :: vx_atS RX6 132 "java/lang/IllegalStateException" xNm, vx_ot w = true := by decide +kernel
def xISE : String := "java/lang/IllegalStateException"
theorem xng_IOB : ∀ w ∈ (vx_atS RX6 181 "java/lang/IndexOutOfBoundsException" xNm).filter (fun w => !goodWord w), w ∈ [Cond.castable "java/lang/IndexOutOfBoundsException" "java/lang/IndexOutOfBoundsException"] := by decide +kernel
theorem xgd_IOB : ∀ w ∈ Cond.classLink RX6 177 "java/lang/IndexOutOfBoundsException" :: Cond.initialized "java/lang/IndexOutOfBoundsException" :: vx_atS RX6 181 "java/lang/IndexOutOfBoundsException" xNm, vx_ot w = true := by decide +kernel
def xIOB : String := "java/lang/IndexOutOfBoundsException"
set_option maxHeartbeats 4000000 in
set_option maxRecDepth 100000 in
theorem c_X6_tableOf (l : Launch) (G : gG) (dce sz : Nat) (M : gM) (x ta tb j sa : Nat) (hv : M x = some (oX ta tb j sa)) (kd : Int32) : mR l yX6_tableOf wsX6_tableOf ({ frames := 0, cells := 0, slots := 0, locals := 0 }) G dce sz M [.ref x, .int kd] (fun r M' => r = (if kd = 0 then ta else tb) ∧ M' = M) (0) (0) := by
  have hv : M x = some (.inr (7, [.ref ta, .ref tb, .ref j, .ref sa])) := hv
  refine wMet (Qc := QR G _) (cc := cX6_tableOf) (maxL := 2) (ret := (some (.object "ObjectMapper$Table"))) (by decide) rfl (Nat.le_of_ble_eq_true rfl) ?_
  intro p e s m below meth c A ls X hnm hw hK hZ hA hS hsz eA hl
  obtain ⟨hx, hb, hr, hts, hown, hlk, hml⟩ := id X
  have hl : lv_has ls 2 [(0, .ref x), (1, .int kd)] := hl
  have iX6 : ∀ w ∈ wsX60, w ∈ wsX6_tableOf := by decide +kernel
  refine lv_iload_n hx hb dX6_tableOf_0 rfl (lv_at hl 1 rfl) ?_
  refine lv_if_ne (tgt := 11) hx hb dX6_tableOf_1 (by decide) (fun c_1 => ?_) (fun c_1 => ?_)
  · refine lv_aload_n hx hb dX6_tableOf_11 rfl (lv_at hl 0 rfl) ?_
    refine m_get X iX6 hK hw hv rfl 1 (by decide) (ref := "ObjectMapper") (by decide +kernel) (Or.inl rfl) rfl dX6_tableOf_12 ?_
    exact m_aret X (Or.inl ⟨_, rfl⟩) hK hw hS (by refine ⟨?_, rfl⟩; simp_all) (by omega) (by omega) dX6_tableOf_15
  · refine lv_aload_n hx hb dX6_tableOf_4 rfl (lv_at hl 0 rfl) ?_
    refine m_get X iX6 hK hw hv rfl 0 (by decide) (ref := "ObjectMapper") (by decide +kernel) (Or.inl rfl) rfl dX6_tableOf_5 ?_
    refine lv_goto (tgt := 15) hx hb dX6_tableOf_8 (by decide) ?_
    exact m_aret X (Or.inl ⟨_, rfl⟩) hK hw hS (by refine ⟨?_, rfl⟩; simp_all) (by omega) (by omega) dX6_tableOf_15
set_option maxHeartbeats 4000000 in
set_option maxRecDepth 100000 in
theorem c_X6_otherKind (l : Launch) (G : gG) (dce sz : Nat) (M : gM) (kd : Int32) : mI l yX6_otherKind wsX6_otherKind ({ frames := 0, cells := 0, slots := 0, locals := 0 }) G dce sz M [.int kd] (fun r M' => r = (if kd = 0 then 1 else 0) ∧ M' = M) (0) (0) := by
  refine wMet (Qc := QI G _) (cc := cX6_otherKind) (maxL := 1) (ret := (some .int)) (by decide) rfl (Nat.le_of_ble_eq_true rfl) ?_
  intro p e s m below meth c A ls X hnm hw hK hZ hA hS hsz eA hl
  obtain ⟨hx, hb, hr, hts, hown, hlk, hml⟩ := id X
  have hl : lv_has ls 1 [(0, .int kd)] := hl
  refine lv_iload_n hx hb dX6_otherKind_0 rfl (lv_at hl 0 rfl) ?_
  refine lv_if_ne (tgt := 8) hx hb dX6_otherKind_1 (by decide) (fun c_1 => ?_) (fun c_1 => ?_)
  · refine lv_iconst (v := 0) hx hb dX6_otherKind_8 (by decide) ?_
    exact m_iret X hK hw hS (by refine ⟨?_, rfl⟩; simp_all) (by omega) (by omega) dX6_otherKind_9
  · refine lv_iconst (v := 1) hx hb dX6_otherKind_4 (by decide) ?_
    refine lv_goto (tgt := 9) hx hb dX6_otherKind_5 (by decide) ?_
    exact m_iret X hK hw hS (by refine ⟨?_, rfl⟩; simp_all) (by omega) (by omega) dX6_otherKind_9
set_option maxHeartbeats 4000000 in
set_option maxRecDepth 100000 in
theorem c_X6_checkKind (l : Launch) (G : gG) (dce sz : Nat) (M : gM) (hlt : l.stackTraces = false) (kd : Int32) : xV l yX6_checkKind wsX6_checkKind ({ frames := 6, cells := 1, slots := 6, locals := 82 }) G dce sz M [.int kd] (fun M' => (kd = 0 ∨ kd = 1) ∧ M' = M) (fun E M' => E = xIAE ∧ ¬ (kd = 0 ∨ kd = 1) ∧ M' = M) (1) (6) := by
  refine xMet (Qc := QV G _) (XC := QX G _) (cc := cX6_checkKind) (maxL := 1) (ret := none) (by decide) rfl (Nat.le_of_ble_eq_true rfl) ?_
  intro p e s m below meth c A ls X hno hnm hw hK hZ hA hS hsz eA hl
  obtain ⟨hx, hb, hr, hts, hown, hlk, hml⟩ := id X
  have hl : lv_has ls 1 [(0, .int kd)] := hl
  refine lv_iload_n hx hb dX6_checkKind_0 rfl (lv_at hl 0 rfl) ?_
  refine lv_if_eq (tgt := 19) hx hb dX6_checkKind_1 (by decide) (fun c_1 => ?_) (fun c_1 => ?_)
  · refine vx_ret ?_
    exact m_vret X hK hw hS (by refine ⟨?_, rfl⟩; first | exact Or.inl c_1 | exact Or.inr c_6) (by omega) (by omega) dX6_checkKind_19
  · refine lv_iload_n hx hb dX6_checkKind_4 rfl (lv_at hl 0 rfl) ?_
    refine lv_iconst (v := 1) hx hb dX6_checkKind_5 (by decide) ?_
    refine lv_icmp_eq (tgt := 19) hx hb dX6_checkKind_6 (by decide) (fun c_6 => ?_) (fun c_6 => ?_)
    · refine vx_ret ?_
      exact m_vret X hK hw hS (by refine ⟨?_, rfl⟩; first | exact Or.inl c_1 | exact Or.inr c_6) (by omega) (by omega) dX6_checkKind_19
    · exact m_throwS X hno hlt rfl (cls := "java/lang/IllegalArgumentException") (text := "no such kind") (names := xNm) (by decide +kernel) (by decide +kernel) (by decide +kernel) (by decide +kernel) (by decide) (fun w h => List.mem_cons_of_mem _ (List.mem_append_right _ h)) xng_IAE (by decide) xgd_IAE hK hw hZ hS hl.1 dX6_checkKind_9 dX6_checkKind_12 dX6_checkKind_13 dX6_checkKind_15 dX6_checkKind_18 (Nat.le_of_ble_eq_true rfl) (Nat.le_of_ble_eq_true rfl) (Nat.le_of_ble_eq_true rfl) (Nat.le_of_ble_eq_true rfl) (by omega) (by omega) (⟨rfl, fun q => q.elim c_1 c_6, rfl⟩)
set_option maxHeartbeats 4000000 in
set_option maxRecDepth 100000 in
theorem c_X6_checkRangeOfName (l : Launch) (G : gG) (dce sz : Nat) (M : gM) (hlt : l.stackTraces = false) (nm : Int32) : xV l yX6_checkRangeOfName wsX6_checkRangeOfName ({ frames := 6, cells := 1, slots := 6, locals := 82 }) G dce sz M [.int nm] (fun M' => (¬ nm < 0 ∧ nm ≤ 1000) ∧ M' = M) (fun E M' => E = xIAE ∧ ¬ (¬ nm < 0 ∧ nm ≤ 1000) ∧ M' = M) (1) (6) := by
  refine xMet (Qc := QV G _) (XC := QX G _) (cc := cX6_checkRangeOfName) (maxL := 1) (ret := none) (by decide) rfl (Nat.le_of_ble_eq_true rfl) ?_
  intro p e s m below meth c A ls X hno hnm hw hK hZ hA hS hsz eA hl
  obtain ⟨hx, hb, hr, hts, hown, hlk, hml⟩ := id X
  have hl : lv_has ls 1 [(0, .int nm)] := hl
  refine lv_iload_n hx hb dX6_checkRangeOfName_0 rfl (lv_at hl 0 rfl) ?_
  refine lv_if_lt (tgt := 11) hx hb dX6_checkRangeOfName_1 (by decide) (fun c_1 => ?_) (fun c_1 => ?_)
  · exact m_throwS X hno hlt rfl (cls := "java/lang/IllegalArgumentException") (text := "name out of range") (names := xNm) (by decide +kernel) (by decide +kernel) (by decide +kernel) (by decide +kernel) (by decide) (fun w h => List.mem_cons_of_mem _ (List.mem_append_right _ h)) xng_IAE (by decide) xgd_IAE hK hw hZ hS hl.1 dX6_checkRangeOfName_11 dX6_checkRangeOfName_14 dX6_checkRangeOfName_15 dX6_checkRangeOfName_17 dX6_checkRangeOfName_20 (Nat.le_of_ble_eq_true rfl) (Nat.le_of_ble_eq_true rfl) (Nat.le_of_ble_eq_true rfl) (Nat.le_of_ble_eq_true rfl) (by omega) (by omega) (⟨rfl, fun q => by first | exact q.1 c_1 | exact c_8 q.2, rfl⟩)
  · refine lv_iload_n hx hb dX6_checkRangeOfName_4 rfl (lv_at hl 0 rfl) ?_
    refine lv_sipush (v := 1000) hx hb dX6_checkRangeOfName_5 (by decide) ?_
    refine lv_icmp_le (tgt := 21) hx hb dX6_checkRangeOfName_8 (by decide) (fun c_8 => ?_) (fun c_8 => ?_)
    · refine vx_ret ?_
      exact m_vret X hK hw hS (by exact ⟨⟨c_1, c_8⟩, rfl⟩) (by omega) (by omega) dX6_checkRangeOfName_21
    · exact m_throwS X hno hlt rfl (cls := "java/lang/IllegalArgumentException") (text := "name out of range") (names := xNm) (by decide +kernel) (by decide +kernel) (by decide +kernel) (by decide +kernel) (by decide) (fun w h => List.mem_cons_of_mem _ (List.mem_append_right _ h)) xng_IAE (by decide) xgd_IAE hK hw hZ hS hl.1 dX6_checkRangeOfName_11 dX6_checkRangeOfName_14 dX6_checkRangeOfName_15 dX6_checkRangeOfName_17 dX6_checkRangeOfName_20 (Nat.le_of_ble_eq_true rfl) (Nat.le_of_ble_eq_true rfl) (Nat.le_of_ble_eq_true rfl) (Nat.le_of_ble_eq_true rfl) (by omega) (by omega) (⟨rfl, fun q => by first | exact q.1 c_1 | exact c_8 q.2, rfl⟩)
set_option maxHeartbeats 4000000 in
set_option maxRecDepth 100000 in
theorem c_X6_sessionAt (l : Launch) (G : gG) (dce sz : Nat) (M : gM) (hlt : l.stackTraces = false) (x ta tb j sa : Nat) (hv : M x = some (oX ta tb j sa)) (f : Nat → Option Nat) (ss : Nat → Nat) (hsa : M sa = some (.inl (G.2 4, 3, .inr (.inr (.inr (.inr f)))))) (hf : ∀ i, i < 3 → f i = some (ss i)) (si : Int32) : xR l yX6_sessionAt wsX6_sessionAt ({ frames := 6, cells := 1, slots := 6, locals := 82 }) G dce sz M [.ref x, .int si] (fun r M' => ∃ i : Nat, i < 3 ∧ si = nI i ∧ r = ss i ∧ M' = M) (fun E M' => E = xIOB ∧ (si < 0 ∨ 3 ≤ si) ∧ M' = M) (1) (6) := by
  have hv : M x = some (.inr (7, [.ref ta, .ref tb, .ref j, .ref sa])) := hv
  refine xMet (Qc := QR G _) (XC := QX G _) (cc := cX6_sessionAt) (maxL := 2) (ret := (some (.object "ObjectMapper$Session"))) (by decide) rfl (Nat.le_of_ble_eq_true rfl) ?_
  intro p e s m below meth c A ls X hno hnm hw hK hZ hA hS hsz eA hl
  obtain ⟨hx, hb, hr, hts, hown, hlk, hml⟩ := id X
  have hl : lv_has ls 2 [(0, .ref x), (1, .int si)] := hl
  have iX6 : ∀ w ∈ wsX60, w ∈ wsX6_sessionAt := by decide +kernel
  refine lv_iload_n hx hb dX6_sessionAt_0 rfl (lv_at hl 1 rfl) ?_
  refine lv_if_lt (tgt := 13) hx hb dX6_sessionAt_1 (by decide) (fun c_1 => ?_) (fun c_1 => ?_)
  · exact m_throwS X hno hlt rfl (cls := "java/lang/IndexOutOfBoundsException") (text := "no such session") (names := xNm) (by decide +kernel) (by decide +kernel) (by decide +kernel) (by decide +kernel) (by decide) (fun w h => List.mem_cons_of_mem _ (List.mem_append_right _ h)) xng_IOB (by decide) xgd_IOB hK hw hZ hS hl.1 dX6_sessionAt_13 dX6_sessionAt_16 dX6_sessionAt_17 dX6_sessionAt_19 dX6_sessionAt_22 (Nat.le_of_ble_eq_true rfl) (Nat.le_of_ble_eq_true rfl) (Nat.le_of_ble_eq_true rfl) (Nat.le_of_ble_eq_true rfl) (by omega) (by omega) (⟨rfl, by first | exact Or.inl c_1 | exact Or.inr (Int32.not_lt.mp c_10), rfl⟩)
  · refine lv_iload_n hx hb dX6_sessionAt_4 rfl (lv_at hl 1 rfl) ?_
    refine lv_aload_n hx hb dX6_sessionAt_5 rfl (lv_at hl 0 rfl) ?_
    refine m_get X iX6 hK hw hv rfl 3 (by decide) (ref := "ObjectMapper") (by decide +kernel) (Or.inl rfl) rfl dX6_sessionAt_6 ?_
    refine m_alen X hK hw hsa 4 rfl dX6_sessionAt_9 ?_
    refine lv_icmp_lt (tgt := 23) hx hb dX6_sessionAt_10 (by decide) (fun c_10 => ?_) (fun c_10 => ?_)
    · refine lv_aload_n hx hb dX6_sessionAt_23 rfl (lv_at hl 0 rfl) ?_
      refine m_get X iX6 hK hw hv rfl 3 (by decide) (ref := "ObjectMapper") (by decide +kernel) (Or.inl rfl) rfl dX6_sessionAt_24 ?_
      refine lv_iload_n hx hb dX6_sessionAt_27 rfl (lv_at hl 1 rfl) ?_
      obtain ⟨i, hi, ei⟩ : ∃ i : Nat, i < 3 ∧ si = nI i := by
        obtain ⟨i, h1, h2⟩ := nI_of c_1
        refine ⟨i, ?_, h2⟩
        rw [h2] at c_10
        exact (nI_ltI h1 (by decide)).mp c_10
      refine m_aald X hK hw 4 hsa rfl (v := ss i) (by rw [ei, nI_clamp (by omega)]; exact hf i hi) (by rw [ei]; exact vp_in_nI hi (by decide)) dX6_sessionAt_28 ?_
      refine vx_ret ?_
      exact m_aret X (Or.inl ⟨_, rfl⟩) hK hw hS (by exact ⟨i, hi, ei, rfl, rfl⟩) (by omega) (by omega) dX6_sessionAt_29
    · exact m_throwS X hno hlt rfl (cls := "java/lang/IndexOutOfBoundsException") (text := "no such session") (names := xNm) (by decide +kernel) (by decide +kernel) (by decide +kernel) (by decide +kernel) (by decide) (fun w h => List.mem_cons_of_mem _ (List.mem_append_right _ h)) xng_IOB (by decide) xgd_IOB hK hw hZ hS hl.1 dX6_sessionAt_13 dX6_sessionAt_16 dX6_sessionAt_17 dX6_sessionAt_19 dX6_sessionAt_22 (Nat.le_of_ble_eq_true rfl) (Nat.le_of_ble_eq_true rfl) (Nat.le_of_ble_eq_true rfl) (Nat.le_of_ble_eq_true rfl) (by omega) (by omega) (⟨rfl, by first | exact Or.inl c_1 | exact Or.inr (Int32.not_lt.mp c_10), rfl⟩)
set_option maxHeartbeats 4000000 in
set_option maxRecDepth 100000 in
theorem c_X6_checkLive_out (l : Launch) (G : gG) (dce sz : Nat) (M : gM) (hlt : l.stackTraces = false) (hs la lb nb : Nat) (hv : M hs = some (oS la lb nb)) (kd : Int32) (mc n : Int32) (ex : Nat) (hli : M (if kd = 0 then la else lb) = some (oL mc ex n)) (ky : Int32) (hout : ky < 0 ∨ n ≤ ky) (hnb : M nb = some (eE v0E)) : xV l yX6_checkLive wsX6_checkLive ({ frames := 6, cells := 1, slots := 6, locals := 82 }) G dce sz M [.ref hs, .int kd, .int ky] (fun _ => False) (fun E M' => E = xISE ∧ M' = M) (1) (6) := by
  refine xMet (Qc := QV G _) (XC := QX G _) (cc := cX6_checkLive) (maxL := 3) (ret := none) (by decide) rfl (Nat.le_of_ble_eq_true rfl) ?_
  intro p e s m below meth c A ls X hno hnm hw hK hZ hA hS hsz eA hl
  obtain ⟨hx, hb, hr, hts, hown, hlk, hml⟩ := id X
  have hl : lv_has ls 3 [(0, .ref hs), (1, .int kd), (2, .int ky)] := hl
  refine lv_aload_n hx hb dX6_checkLive_0 rfl (lv_at hl 0 rfl) ?_
  refine lv_iload_n hx hb dX6_checkLive_1 rfl (lv_at hl 1 rfl) ?_
  refine lv_iload_n hx hb dX6_checkLive_2 rfl (lv_at hl 2 rfl) ?_
  refine m_callVr X (ci := 5) rfl hv hK hw hZ hS hA (As := [.int kd, .int ky]) (rest := []) (c_X4_entityAt_out l G dce _ M hs la lb nb hv kd mc n ex hli ky hout) (cwV 2 hts gX6_checkLive_X4_entityAt rfl rfl rfl (by decide +kernel) ⟨Nat.le_of_ble_eq_true rfl, Nat.le_of_ble_eq_true rfl⟩) rfl hl.1 rfl (Nat.le_of_ble_eq_true rfl) dX6_checkLive_3 (Nat.le_of_ble_eq_true rfl) (Nat.le_of_ble_eq_true rfl) (fun r2 M1 H locs hp hw hS hz hk => ?_)
  rw [hp.2] at hw
  have er2 := hp.1
  subst er2
  refine m_callVi X (ci := 1) rfl hnb hK hw hZ hS hA (As := []) (rest := []) (c_X0_isLive l G dce _ M nb v0E hnb) (cwV 0 hts gX6_checkLive_X0_isLive rfl rfl rfl (by decide +kernel) ⟨Nat.le_of_ble_eq_true rfl, Nat.le_of_ble_eq_true rfl⟩) rfl hl.1 rfl (Nat.le_of_ble_eq_true rfl) dX6_checkLive_6 (Nat.le_of_ble_eq_true rfl) (Nat.le_of_ble_eq_true rfl) (fun r4 M3 H locs hp hw hS hz hk => ?_)
  rw [hp.2] at hw
  have er4 := hp.1
  subst er4
  refine lv_if_ne (tgt := 22) hx hb dX6_checkLive_9 (by decide) (fun c_9 => ?_) (fun c_9 => ?_)
  · exact (by exfalso; exact c_9 (by decide))
  · exact m_throwS X hno hlt rfl (cls := "java/lang/IllegalStateException") (text := "object not known or removed") (names := xNm) (by decide +kernel) (by decide +kernel) (by decide +kernel) (by decide +kernel) (by decide) (fun w h => List.mem_cons_of_mem _ (List.mem_append_right _ h)) xng_ISE (by decide) xgd_ISE hK hw hZ hS hl.1 dX6_checkLive_12 dX6_checkLive_15 dX6_checkLive_16 dX6_checkLive_18 dX6_checkLive_21 (Nat.le_of_ble_eq_true rfl) (Nat.le_of_ble_eq_true rfl) (Nat.le_of_ble_eq_true rfl) (Nat.le_of_ble_eq_true rfl) (by omega) (by omega) (⟨rfl, rfl⟩)
set_option maxHeartbeats 4000000 in
set_option maxRecDepth 100000 in
theorem c_X6_checkedRow_out (l : Launch) (G : gG) (dce sz : Nat) (M : gM) (hlt : l.stackTraces = false) (x ta tb j sa : Nat) (hv : M x = some (oX ta tb j sa)) (kd ky : Int32) (lp nr : Nat) (mc n : Int32) (ex : Nat) (hta : M (if kd = 0 then ta else tb) = some (oT lp nr)) (hli : M lp = some (oL mc ex n)) (hout : ky < 0 ∨ n ≤ ky) (hnr : M nr = some (eR v0R)) : xR l yX6_checkedRow wsX6_checkedRow ({ frames := 7, cells := 1, slots := 6, locals := 102 }) G dce sz M [.ref x, .int kd, .int ky] (fun _ _ => False) (fun E M' => (E = xIAE ∧ ¬ (kd = 0 ∨ kd = 1) ∨ E = xIOB ∧ (kd = 0 ∨ kd = 1)) ∧ M' = M) (1) (6) := by
  have hv : M x = some (.inr (7, [.ref ta, .ref tb, .ref j, .ref sa])) := hv
  have hta : M (if kd = 0 then ta else tb) = some (.inr (6, [.ref lp, .ref nr])) := hta
  refine xMet (Qc := QR G _) (XC := QX G _) (cc := cX6_checkedRow) (maxL := 4) (ret := (some (.object "ObjectMapper$Row"))) (by decide) rfl (Nat.le_of_ble_eq_true rfl) ?_
  intro p e s m below meth c A ls X hno hnm hw hK hZ hA hS hsz eA hl
  obtain ⟨hx, hb, hr, hts, hown, hlk, hml⟩ := id X
  have hl : lv_has ls 4 [(0, .ref x), (1, .int kd), (2, .int ky)] := hl
  have iX3 : ∀ w ∈ wsX30, w ∈ wsX6_checkedRow := by decide +kernel
  refine lv_iload_n hx hb dX6_checkedRow_0 rfl (lv_at hl 1 rfl) ?_
  refine x_callSv X hK hw hZ hS hA (As := [.int kd]) (rest := []) (c_X6_checkKind l G dce _ M hlt kd) (va_cwS 1 hts gX6_checkedRow_X6_checkKind rfl rfl rfl (by decide +kernel) ⟨Nat.le_of_ble_eq_true rfl, Nat.le_of_ble_eq_true rfl⟩) rfl hl.1 rfl (Nat.le_of_ble_eq_true rfl) dX6_checkedRow_1 (Nat.le_of_ble_eq_true rfl) (Nat.le_of_ble_eq_true rfl) (fun E ce q9 M1 H locs hp hw hS hz hk hce hcv hcl9 => ?_) (fun M1 H locs hp hw hS hz hk => ?_)
  · exact m_out X hno hK hw hS hce hcv hcl9 (by omega) (by omega) (⟨Or.inl ⟨hp.1, hp.2.1⟩, hp.2.2⟩)
  obtain ⟨hkd, rfl⟩ := hp
  refine lv_aload_n hx hb dX6_checkedRow_4 rfl (lv_at hl 0 rfl) ?_
  refine lv_iload_n hx hb dX6_checkedRow_5 rfl (lv_at hl 1 rfl) ?_
  refine m_callVr X (ci := 7) rfl hv hK hw hZ hS hA (As := [.int kd]) (rest := []) (c_X6_tableOf l G dce _ M x ta tb j sa hv kd) (cwV 1 hts gX6_checkedRow_X6_tableOf rfl rfl rfl (by decide +kernel) ⟨Nat.le_of_ble_eq_true rfl, Nat.le_of_ble_eq_true rfl⟩) rfl hl.1 rfl (Nat.le_of_ble_eq_true rfl) dX6_checkedRow_6 (Nat.le_of_ble_eq_true rfl) (Nat.le_of_ble_eq_true rfl) (fun r3 M2 H locs hp hw hS hz hk => ?_)
  rw [hp.2] at hw
  have er3 := hp.1
  subst er3
  refine lv_iload_n hx hb dX6_checkedRow_9 rfl (lv_at hl 2 rfl) ?_
  refine m_callVr X (ci := 6) rfl hta hK hw hZ hS hA (As := [.int ky]) (rest := []) (c_X5_rowAt_out l G dce _ M (if kd = 0 then ta else tb) lp nr hta mc n ex hli ky hout) (cwV 1 hts gX6_checkedRow_X5_rowAt rfl rfl rfl (by decide +kernel) ⟨Nat.le_of_ble_eq_true rfl, Nat.le_of_ble_eq_true rfl⟩) rfl hl.1 rfl (Nat.le_of_ble_eq_true rfl) dX6_checkedRow_10 (Nat.le_of_ble_eq_true rfl) (Nat.le_of_ble_eq_true rfl) (fun r5 M4 H locs hp hw hS hz hk => ?_)
  rw [hp.2] at hw
  have er5 := hp.1
  subst er5
  refine lv_astore_n (lv' := [(3, .ref nr), (0, .ref x), (1, .int kd), (2, .int ky)]) hx hb dX6_checkedRow_13 rfl hl (by decide) rfl (fun ls hl => ?_)
  refine lv_aload_n hx hb dX6_checkedRow_14 rfl (lv_at hl 0 rfl) ?_
  refine m_get X iX3 hK hw hnr rfl 0 (by decide) (ref := "ObjectMapper$Row") (by decide +kernel) (Or.inl rfl) rfl dX6_checkedRow_15 ?_
  refine lv_if_ne (tgt := 31) hx hb dX6_checkedRow_18 (by decide) (fun c_18 => ?_) (fun c_18 => ?_)
  · exact (by exfalso; exact c_18 (by decide))
  · exact m_throwS X hno hlt rfl (cls := "java/lang/IndexOutOfBoundsException") (text := "no such row") (names := xNm) (by decide +kernel) (by decide +kernel) (by decide +kernel) (by decide +kernel) (by decide) (fun w h => List.mem_cons_of_mem _ (List.mem_append_left _ (List.mem_append_right _ h))) xng_IOB (by decide) xgd_IOB hK hw hZ hS hl.1 dX6_checkedRow_21 dX6_checkedRow_24 dX6_checkedRow_25 dX6_checkedRow_27 dX6_checkedRow_30 (Nat.le_of_ble_eq_true rfl) (Nat.le_of_ble_eq_true rfl) (Nat.le_of_ble_eq_true rfl) (Nat.le_of_ble_eq_true rfl) (by omega) (by omega) (⟨Or.inr ⟨rfl, hkd⟩, rfl⟩)
set_option maxHeartbeats 4000000 in
set_option maxRecDepth 100000 in
theorem c_X6_checkWrite (l : Launch) (G : gG) (dce sz : Nat) (M : gM) (hlt : l.stackTraces = false) (x ta tb j sa : Nat) (hv : M x = some (oX ta tb j sa)) (w : Int32) (ja jr : Nat) (hj : M j = some (oJ w ja jr)) (nu : Int32) : xV l yX6_checkWrite wsX6_checkWrite ({ frames := 6, cells := 1, slots := 6, locals := 82 }) G dce sz M [.ref x, .int nu] (fun M' => (¬ nu < 0 ∧ nu < w) ∧ M' = M) (fun E M' => E = xIOB ∧ ¬ (¬ nu < 0 ∧ nu < w) ∧ M' = M) (1) (6) := by
  have hv : M x = some (.inr (7, [.ref ta, .ref tb, .ref j, .ref sa])) := hv
  have hj : M j = some (.inr (3, [.int w, .ref ja, .ref jr])) := hj
  refine xMet (Qc := QV G _) (XC := QX G _) (cc := cX6_checkWrite) (maxL := 2) (ret := none) (by decide) rfl (Nat.le_of_ble_eq_true rfl) ?_
  intro p e s m below meth c A ls X hno hnm hw hK hZ hA hS hsz eA hl
  obtain ⟨hx, hb, hr, hts, hown, hlk, hml⟩ := id X
  have hl : lv_has ls 2 [(0, .ref x), (1, .int nu)] := hl
  have iX2 : ∀ w ∈ wsX20, w ∈ wsX6_checkWrite := by decide +kernel
  have iX6 : ∀ w ∈ wsX60, w ∈ wsX6_checkWrite := by decide +kernel
  refine lv_iload_n hx hb dX6_checkWrite_0 rfl (lv_at hl 1 rfl) ?_
  refine lv_if_lt (tgt := 15) hx hb dX6_checkWrite_1 (by decide) (fun c_1 => ?_) (fun c_1 => ?_)
  · exact m_throwS X hno hlt rfl (cls := "java/lang/IndexOutOfBoundsException") (text := "no such write") (names := xNm) (by decide +kernel) (by decide +kernel) (by decide +kernel) (by decide +kernel) (by decide) (fun w h => List.mem_cons_of_mem _ (List.mem_append_right _ h)) xng_IOB (by decide) xgd_IOB hK hw hZ hS hl.1 dX6_checkWrite_15 dX6_checkWrite_18 dX6_checkWrite_19 dX6_checkWrite_21 dX6_checkWrite_24 (Nat.le_of_ble_eq_true rfl) (Nat.le_of_ble_eq_true rfl) (Nat.le_of_ble_eq_true rfl) (Nat.le_of_ble_eq_true rfl) (by omega) (by omega) (⟨rfl, fun q => by first | exact q.1 c_1 | exact c_12 q.2, rfl⟩)
  · refine lv_iload_n hx hb dX6_checkWrite_4 rfl (lv_at hl 1 rfl) ?_
    refine lv_aload_n hx hb dX6_checkWrite_5 rfl (lv_at hl 0 rfl) ?_
    refine m_get X iX6 hK hw hv rfl 2 (by decide) (ref := "ObjectMapper") (by decide +kernel) (Or.inl rfl) rfl dX6_checkWrite_6 ?_
    refine m_get X iX2 hK hw hj rfl 0 (by decide) (ref := "ObjectMapper$Journal") (by decide +kernel) (Or.inl rfl) rfl dX6_checkWrite_9 ?_
    refine lv_icmp_lt (tgt := 25) hx hb dX6_checkWrite_12 (by decide) (fun c_12 => ?_) (fun c_12 => ?_)
    · refine vx_ret ?_
      exact m_vret X hK hw hS (by exact ⟨⟨c_1, c_12⟩, rfl⟩) (by omega) (by omega) dX6_checkWrite_25
    · exact m_throwS X hno hlt rfl (cls := "java/lang/IndexOutOfBoundsException") (text := "no such write") (names := xNm) (by decide +kernel) (by decide +kernel) (by decide +kernel) (by decide +kernel) (by decide) (fun w h => List.mem_cons_of_mem _ (List.mem_append_right _ h)) xng_IOB (by decide) xgd_IOB hK hw hZ hS hl.1 dX6_checkWrite_15 dX6_checkWrite_18 dX6_checkWrite_19 dX6_checkWrite_21 dX6_checkWrite_24 (Nat.le_of_ble_eq_true rfl) (Nat.le_of_ble_eq_true rfl) (Nat.le_of_ble_eq_true rfl) (Nat.le_of_ble_eq_true rfl) (by omega) (by omega) (⟨rfl, fun q => by first | exact q.1 c_1 | exact c_12 q.2, rfl⟩)
end
