section
-- ===== PART A: goes FIRST, ahead of the names: the tables' words, and 'selects' of the private methods out of them =====
/-- a private method of a class that the tables say can be made, by its rows of tables_1 -/
def lw_okq (q : MethodName × Nat) : Prop := (q.1.cls ≠ "java/lang/invoke/MethodHandle" ∧ q.1.cls ≠ "java/lang/invoke/VarHandle") ∧ Cond.instantiable q.1.cls q.2 ∈ tables_1 ∧ Cond.privateMethod q.1 ∈ tables_1 ∧ Cond.instanceMethod q.1 ∈ tables_1
theorem lw_p0 : lw_okq (⟨"TracedBuild", "isTold", "(I)Z"⟩, 8) := ⟨⟨by decide +kernel, by decide +kernel⟩, List.mem_of_getElem? (i := 19) (by decide +kernel), List.mem_of_getElem? (i := 257) (by decide +kernel), List.mem_of_getElem? (i := 258) (by decide +kernel)⟩
theorem lw_p1 : lw_okq (⟨"TracedBuild$Store", "isFollowedByItsLike", "(I)Z"⟩, 2) := ⟨⟨by decide +kernel, by decide +kernel⟩, List.mem_of_getElem? (i := 72) (by decide +kernel), List.mem_of_getElem? (i := 313) (by decide +kernel), List.mem_of_getElem? (i := 314) (by decide +kernel)⟩
theorem lw_p2 : lw_okq (⟨"TracedBuild$Store", "swap", "(II)V"⟩, 2) := ⟨⟨by decide +kernel, by decide +kernel⟩, List.mem_of_getElem? (i := 72) (by decide +kernel), List.mem_of_getElem? (i := 325) (by decide +kernel), List.mem_of_getElem? (i := 326) (by decide +kernel)⟩
theorem lw_p3 : lw_okq (⟨"TracedBuild", "refuseNoCommand", "()V"⟩, 8) := ⟨⟨by decide +kernel, by decide +kernel⟩, List.mem_of_getElem? (i := 19) (by decide +kernel), List.mem_of_getElem? (i := 342) (by decide +kernel), List.mem_of_getElem? (i := 343) (by decide +kernel)⟩
theorem lw_p4 : lw_okq (⟨"TracedBuild$Text", "isPlainCommand", "(I)Z"⟩, 2) := ⟨⟨by decide +kernel, by decide +kernel⟩, List.mem_of_getElem? (i := 27) (by decide +kernel), List.mem_of_getElem? (i := 358) (by decide +kernel), List.mem_of_getElem? (i := 359) (by decide +kernel)⟩
theorem lw_p5 : lw_okq (⟨"TracedBuild$Text", "isFilesToEnd", "(II)Z"⟩, 2) := ⟨⟨by decide +kernel, by decide +kernel⟩, List.mem_of_getElem? (i := 27) (by decide +kernel), List.mem_of_getElem? (i := 362) (by decide +kernel), List.mem_of_getElem? (i := 363) (by decide +kernel)⟩
theorem lw_p6 : lw_okq (⟨"TracedBuild$Text", "isDigitsAndFile", "(I)Z"⟩, 2) := ⟨⟨by decide +kernel, by decide +kernel⟩, List.mem_of_getElem? (i := 27) (by decide +kernel), List.mem_of_getElem? (i := 370) (by decide +kernel), List.mem_of_getElem? (i := 371) (by decide +kernel)⟩
theorem lw_p7 : lw_okq (⟨"java/lang/Throwable", "fillInStackTrace", "(I)Ljava/lang/Throwable;"⟩, 6) := ⟨⟨by decide +kernel, by decide +kernel⟩, List.mem_of_getElem? (i := 416) (by decide +kernel), List.mem_of_getElem? (i := 414) (by decide +kernel), List.mem_of_getElem? (i := 415) (by decide +kernel)⟩
theorem lw_p8 : lw_okq (⟨"TracedBuild", "scriptChanged", "()V"⟩, 8) := ⟨⟨by decide +kernel, by decide +kernel⟩, List.mem_of_getElem? (i := 19) (by decide +kernel), List.mem_of_getElem? (i := 468) (by decide +kernel), List.mem_of_getElem? (i := 469) (by decide +kernel)⟩
theorem lw_p9 : lw_okq (⟨"TracedBuild", "refuseNoPlace", "(I)V"⟩, 8) := ⟨⟨by decide +kernel, by decide +kernel⟩, List.mem_of_getElem? (i := 19) (by decide +kernel), List.mem_of_getElem? (i := 480) (by decide +kernel), List.mem_of_getElem? (i := 481) (by decide +kernel)⟩
theorem lw_p10 : lw_okq (⟨"TracedBuild", "goThrough", "(I)V"⟩, 8) := ⟨⟨by decide +kernel, by decide +kernel⟩, List.mem_of_getElem? (i := 19) (by decide +kernel), List.mem_of_getElem? (i := 530) (by decide +kernel), List.mem_of_getElem? (i := 531) (by decide +kernel)⟩
theorem lw_p11 : lw_okq (⟨"TracedBuild", "perform", "(IZ)V"⟩, 8) := ⟨⟨by decide +kernel, by decide +kernel⟩, List.mem_of_getElem? (i := 19) (by decide +kernel), List.mem_of_getElem? (i := 547) (by decide +kernel), List.mem_of_getElem? (i := 548) (by decide +kernel)⟩
theorem lw_p12 : lw_okq (⟨"TracedBuild$Log", "lookForHazard", "(IZ)V"⟩, 7) := ⟨⟨by decide +kernel, by decide +kernel⟩, List.mem_of_getElem? (i := 120) (by decide +kernel), List.mem_of_getElem? (i := 673) (by decide +kernel), List.mem_of_getElem? (i := 674) (by decide +kernel)⟩
theorem lw_p13 : lw_okq (⟨"TracedBuild$Log", "lookBetween", "(IIZ)V"⟩, 7) := ⟨⟨by decide +kernel, by decide +kernel⟩, List.mem_of_getElem? (i := 120) (by decide +kernel), List.mem_of_getElem? (i := 678) (by decide +kernel), List.mem_of_getElem? (i := 679) (by decide +kernel)⟩
theorem lw_p14 : lw_okq (⟨"TracedBuild$Log", "filesInTheWay", "(III)I"⟩, 7) := ⟨⟨by decide +kernel, by decide +kernel⟩, List.mem_of_getElem? (i := 120) (by decide +kernel), List.mem_of_getElem? (i := 682) (by decide +kernel), List.mem_of_getElem? (i := 683) (by decide +kernel)⟩
theorem lw_p15 : lw_okq (⟨"TracedBuild", "firstToGoAhead", "(I)I"⟩, 8) := ⟨⟨by decide +kernel, by decide +kernel⟩, List.mem_of_getElem? (i := 19) (by decide +kernel), List.mem_of_getElem? (i := 687) (by decide +kernel), List.mem_of_getElem? (i := 688) (by decide +kernel)⟩
def lw_privs_1 : List (MethodName × Nat) := [(⟨"TracedBuild", "isTold", "(I)Z"⟩, 8), (⟨"TracedBuild$Store", "isFollowedByItsLike", "(I)Z"⟩, 2), (⟨"TracedBuild$Store", "swap", "(II)V"⟩, 2), (⟨"TracedBuild", "refuseNoCommand", "()V"⟩, 8), (⟨"TracedBuild$Text", "isPlainCommand", "(I)Z"⟩, 2), (⟨"TracedBuild$Text", "isFilesToEnd", "(II)Z"⟩, 2), (⟨"TracedBuild$Text", "isDigitsAndFile", "(I)Z"⟩, 2), (⟨"java/lang/Throwable", "fillInStackTrace", "(I)Ljava/lang/Throwable;"⟩, 6), (⟨"TracedBuild", "scriptChanged", "()V"⟩, 8), (⟨"TracedBuild", "refuseNoPlace", "(I)V"⟩, 8), (⟨"TracedBuild", "goThrough", "(I)V"⟩, 8), (⟨"TracedBuild", "perform", "(IZ)V"⟩, 8), (⟨"TracedBuild$Log", "lookForHazard", "(IZ)V"⟩, 7), (⟨"TracedBuild$Log", "lookBetween", "(IIZ)V"⟩, 7), (⟨"TracedBuild$Log", "filesInTheWay", "(III)I"⟩, 7), (⟨"TracedBuild", "firstToGoAhead", "(I)I"⟩, 8)]
theorem lw_r1 : ∀ q ∈ lw_privs_1, lw_okq q := List.forall_mem_cons.mpr ⟨lw_p0, List.forall_mem_cons.mpr ⟨lw_p1, List.forall_mem_cons.mpr ⟨lw_p2, List.forall_mem_cons.mpr ⟨lw_p3, List.forall_mem_cons.mpr ⟨lw_p4, List.forall_mem_cons.mpr ⟨lw_p5, List.forall_mem_cons.mpr ⟨lw_p6, List.forall_mem_cons.mpr ⟨lw_p7, List.forall_mem_cons.mpr ⟨lw_p8, List.forall_mem_cons.mpr ⟨lw_p9, List.forall_mem_cons.mpr ⟨lw_p10, List.forall_mem_cons.mpr ⟨lw_p11, List.forall_mem_cons.mpr ⟨lw_p12, List.forall_mem_cons.mpr ⟨lw_p13, List.forall_mem_cons.mpr ⟨lw_p14, List.forall_mem_cons.mpr ⟨lw_p15, fun _ h => absurd h List.not_mem_nil⟩⟩⟩⟩⟩⟩⟩⟩⟩⟩⟩⟩⟩⟩⟩⟩
theorem lw_p16 : lw_okq (⟨"TracedBuild", "seemsSafeAhead", "(II)Z"⟩, 8) := ⟨⟨by decide +kernel, by decide +kernel⟩, List.mem_of_getElem? (i := 19) (by decide +kernel), List.mem_of_getElem? (i := 691) (by decide +kernel), List.mem_of_getElem? (i := 692) (by decide +kernel)⟩
theorem lw_p17 : lw_okq (⟨"TracedBuild$Trace", "touched", "()I"⟩, 5) := ⟨⟨by decide +kernel, by decide +kernel⟩, List.mem_of_getElem? (i := 79) (by decide +kernel), List.mem_of_getElem? (i := 701) (by decide +kernel), List.mem_of_getElem? (i := 702) (by decide +kernel)⟩
theorem lw_p18 : lw_okq (⟨"TracedBuildModel", "isCommand", "()Z"⟩, 40) := ⟨⟨by decide +kernel, by decide +kernel⟩, List.mem_of_getElem? (i := 735) (by decide +kernel), List.mem_of_getElem? (i := 875) (by decide +kernel), List.mem_of_getElem? (i := 876) (by decide +kernel)⟩
theorem lw_p19 : lw_okq (⟨"TracedBuildModel", "fileAt", "(I)I"⟩, 40) := ⟨⟨by decide +kernel, by decide +kernel⟩, List.mem_of_getElem? (i := 735) (by decide +kernel), List.mem_of_getElem? (i := 879) (by decide +kernel), List.mem_of_getElem? (i := 880) (by decide +kernel)⟩
theorem lw_p20 : lw_okq (⟨"TracedBuildModel", "files", "(II)Z"⟩, 40) := ⟨⟨by decide +kernel, by decide +kernel⟩, List.mem_of_getElem? (i := 735) (by decide +kernel), List.mem_of_getElem? (i := 886) (by decide +kernel), List.mem_of_getElem? (i := 887) (by decide +kernel)⟩
theorem lw_p21 : lw_okq (⟨"TracedBuildModel", "isDigit", "(I)Z"⟩, 40) := ⟨⟨by decide +kernel, by decide +kernel⟩, List.mem_of_getElem? (i := 735) (by decide +kernel), List.mem_of_getElem? (i := 890) (by decide +kernel), List.mem_of_getElem? (i := 891) (by decide +kernel)⟩
theorem lw_p22 : lw_okq (⟨"TracedBuildModel", "digitsAndFile", "(I)Z"⟩, 40) := ⟨⟨by decide +kernel, by decide +kernel⟩, List.mem_of_getElem? (i := 735) (by decide +kernel), List.mem_of_getElem? (i := 894) (by decide +kernel), List.mem_of_getElem? (i := 895) (by decide +kernel)⟩
theorem lw_p23 : lw_okq (⟨"TracedBuildModel", "fail", "(I)I"⟩, 40) := ⟨⟨by decide +kernel, by decide +kernel⟩, List.mem_of_getElem? (i := 735) (by decide +kernel), List.mem_of_getElem? (i := 898) (by decide +kernel), List.mem_of_getElem? (i := 899) (by decide +kernel)⟩
theorem lw_p24 : lw_okq (⟨"TracedBuildModel", "keep", "(I)V"⟩, 40) := ⟨⟨by decide +kernel, by decide +kernel⟩, List.mem_of_getElem? (i := 735) (by decide +kernel), List.mem_of_getElem? (i := 902) (by decide +kernel), List.mem_of_getElem? (i := 903) (by decide +kernel)⟩
theorem lw_p25 : lw_okq (⟨"TracedBuildModel", "save", "(Z)V"⟩, 40) := ⟨⟨by decide +kernel, by decide +kernel⟩, List.mem_of_getElem? (i := 735) (by decide +kernel), List.mem_of_getElem? (i := 930) (by decide +kernel), List.mem_of_getElem? (i := 931) (by decide +kernel)⟩
theorem lw_p26 : lw_okq (⟨"TracedBuildModel", "attempt", "(I)Z"⟩, 40) := ⟨⟨by decide +kernel, by decide +kernel⟩, List.mem_of_getElem? (i := 735) (by decide +kernel), List.mem_of_getElem? (i := 934) (by decide +kernel), List.mem_of_getElem? (i := 935) (by decide +kernel)⟩
theorem lw_p27 : lw_okq (⟨"TracedBuildModel", "perform", "(IZ)V"⟩, 40) := ⟨⟨by decide +kernel, by decide +kernel⟩, List.mem_of_getElem? (i := 735) (by decide +kernel), List.mem_of_getElem? (i := 938) (by decide +kernel), List.mem_of_getElem? (i := 939) (by decide +kernel)⟩
theorem lw_p28 : lw_okq (⟨"TracedBuildModel", "fitting", "(I)I"⟩, 40) := ⟨⟨by decide +kernel, by decide +kernel⟩, List.mem_of_getElem? (i := 735) (by decide +kernel), List.mem_of_getElem? (i := 942) (by decide +kernel), List.mem_of_getElem? (i := 943) (by decide +kernel)⟩
theorem lw_p29 : lw_okq (⟨"TracedBuildModel", "isOf", "(II)Z"⟩, 40) := ⟨⟨by decide +kernel, by decide +kernel⟩, List.mem_of_getElem? (i := 735) (by decide +kernel), List.mem_of_getElem? (i := 946) (by decide +kernel), List.mem_of_getElem? (i := 947) (by decide +kernel)⟩
theorem lw_p30 : lw_okq (⟨"TracedBuildModel", "changedFor", "(I)I"⟩, 40) := ⟨⟨by decide +kernel, by decide +kernel⟩, List.mem_of_getElem? (i := 735) (by decide +kernel), List.mem_of_getElem? (i := 950) (by decide +kernel), List.mem_of_getElem? (i := 951) (by decide +kernel)⟩
theorem lw_p31 : lw_okq (⟨"TracedBuildModel", "isAsRead", "(II)Z"⟩, 40) := ⟨⟨by decide +kernel, by decide +kernel⟩, List.mem_of_getElem? (i := 735) (by decide +kernel), List.mem_of_getElem? (i := 954) (by decide +kernel), List.mem_of_getElem? (i := 955) (by decide +kernel)⟩
def lw_privs_2 : List (MethodName × Nat) := [(⟨"TracedBuild", "seemsSafeAhead", "(II)Z"⟩, 8), (⟨"TracedBuild$Trace", "touched", "()I"⟩, 5), (⟨"TracedBuildModel", "isCommand", "()Z"⟩, 40), (⟨"TracedBuildModel", "fileAt", "(I)I"⟩, 40), (⟨"TracedBuildModel", "files", "(II)Z"⟩, 40), (⟨"TracedBuildModel", "isDigit", "(I)Z"⟩, 40), (⟨"TracedBuildModel", "digitsAndFile", "(I)Z"⟩, 40), (⟨"TracedBuildModel", "fail", "(I)I"⟩, 40), (⟨"TracedBuildModel", "keep", "(I)V"⟩, 40), (⟨"TracedBuildModel", "save", "(Z)V"⟩, 40), (⟨"TracedBuildModel", "attempt", "(I)Z"⟩, 40), (⟨"TracedBuildModel", "perform", "(IZ)V"⟩, 40), (⟨"TracedBuildModel", "fitting", "(I)I"⟩, 40), (⟨"TracedBuildModel", "isOf", "(II)Z"⟩, 40), (⟨"TracedBuildModel", "changedFor", "(I)I"⟩, 40), (⟨"TracedBuildModel", "isAsRead", "(II)Z"⟩, 40)]
theorem lw_r2 : ∀ q ∈ lw_privs_2, lw_okq q := List.forall_mem_cons.mpr ⟨lw_p16, List.forall_mem_cons.mpr ⟨lw_p17, List.forall_mem_cons.mpr ⟨lw_p18, List.forall_mem_cons.mpr ⟨lw_p19, List.forall_mem_cons.mpr ⟨lw_p20, List.forall_mem_cons.mpr ⟨lw_p21, List.forall_mem_cons.mpr ⟨lw_p22, List.forall_mem_cons.mpr ⟨lw_p23, List.forall_mem_cons.mpr ⟨lw_p24, List.forall_mem_cons.mpr ⟨lw_p25, List.forall_mem_cons.mpr ⟨lw_p26, List.forall_mem_cons.mpr ⟨lw_p27, List.forall_mem_cons.mpr ⟨lw_p28, List.forall_mem_cons.mpr ⟨lw_p29, List.forall_mem_cons.mpr ⟨lw_p30, List.forall_mem_cons.mpr ⟨lw_p31, fun _ h => absurd h List.not_mem_nil⟩⟩⟩⟩⟩⟩⟩⟩⟩⟩⟩⟩⟩⟩⟩⟩
theorem lw_p32 : lw_okq (⟨"TracedBuildModel", "isWritten", "(I)Z"⟩, 40) := ⟨⟨by decide +kernel, by decide +kernel⟩, List.mem_of_getElem? (i := 735) (by decide +kernel), List.mem_of_getElem? (i := 958) (by decide +kernel), List.mem_of_getElem? (i := 959) (by decide +kernel)⟩
theorem lw_p33 : lw_okq (⟨"TracedBuildModel", "latestOf", "(I)I"⟩, 40) := ⟨⟨by decide +kernel, by decide +kernel⟩, List.mem_of_getElem? (i := 735) (by decide +kernel), List.mem_of_getElem? (i := 962) (by decide +kernel), List.mem_of_getElem? (i := 963) (by decide +kernel)⟩
theorem lw_p34 : lw_okq (⟨"TracedBuildModel", "work", "(I)V"⟩, 40) := ⟨⟨by decide +kernel, by decide +kernel⟩, List.mem_of_getElem? (i := 735) (by decide +kernel), List.mem_of_getElem? (i := 966) (by decide +kernel), List.mem_of_getElem? (i := 967) (by decide +kernel)⟩
theorem lw_p35 : lw_okq (⟨"TracedBuildModel", "letter", "(II)I"⟩, 40) := ⟨⟨by decide +kernel, by decide +kernel⟩, List.mem_of_getElem? (i := 735) (by decide +kernel), List.mem_of_getElem? (i := 970) (by decide +kernel), List.mem_of_getElem? (i := 971) (by decide +kernel)⟩
theorem lw_p36 : lw_okq (⟨"TracedBuildModel", "readFile", "(I)V"⟩, 40) := ⟨⟨by decide +kernel, by decide +kernel⟩, List.mem_of_getElem? (i := 735) (by decide +kernel), List.mem_of_getElem? (i := 974) (by decide +kernel), List.mem_of_getElem? (i := 975) (by decide +kernel)⟩
theorem lw_p37 : lw_okq (⟨"TracedBuildModel", "addAll", "(II)V"⟩, 40) := ⟨⟨by decide +kernel, by decide +kernel⟩, List.mem_of_getElem? (i := 735) (by decide +kernel), List.mem_of_getElem? (i := 978) (by decide +kernel), List.mem_of_getElem? (i := 979) (by decide +kernel)⟩
theorem lw_p38 : lw_okq (⟨"TracedBuildModel", "add", "(I)V"⟩, 40) := ⟨⟨by decide +kernel, by decide +kernel⟩, List.mem_of_getElem? (i := 735) (by decide +kernel), List.mem_of_getElem? (i := 982) (by decide +kernel), List.mem_of_getElem? (i := 983) (by decide +kernel)⟩
theorem lw_p39 : lw_okq (⟨"TracedBuildModel", "join", "(II)V"⟩, 40) := ⟨⟨by decide +kernel, by decide +kernel⟩, List.mem_of_getElem? (i := 735) (by decide +kernel), List.mem_of_getElem? (i := 986) (by decide +kernel), List.mem_of_getElem? (i := 987) (by decide +kernel)⟩
theorem lw_p40 : lw_okq (⟨"TracedBuildModel", "sums", "(II)V"⟩, 40) := ⟨⟨by decide +kernel, by decide +kernel⟩, List.mem_of_getElem? (i := 735) (by decide +kernel), List.mem_of_getElem? (i := 990) (by decide +kernel), List.mem_of_getElem? (i := 991) (by decide +kernel)⟩
theorem lw_p41 : lw_okq (⟨"TracedBuildModel", "sort", "()V"⟩, 40) := ⟨⟨by decide +kernel, by decide +kernel⟩, List.mem_of_getElem? (i := 735) (by decide +kernel), List.mem_of_getElem? (i := 994) (by decide +kernel), List.mem_of_getElem? (i := 995) (by decide +kernel)⟩
theorem lw_p42 : lw_okq (⟨"TracedBuildModel", "digits", "(II)V"⟩, 40) := ⟨⟨by decide +kernel, by decide +kernel⟩, List.mem_of_getElem? (i := 735) (by decide +kernel), List.mem_of_getElem? (i := 998) (by decide +kernel), List.mem_of_getElem? (i := 999) (by decide +kernel)⟩
theorem lw_p43 : lw_okq (⟨"TracedBuildModel", "ask", "(I)V"⟩, 40) := ⟨⟨by decide +kernel, by decide +kernel⟩, List.mem_of_getElem? (i := 735) (by decide +kernel), List.mem_of_getElem? (i := 1002) (by decide +kernel), List.mem_of_getElem? (i := 1003) (by decide +kernel)⟩
theorem lw_p44 : lw_okq (⟨"TracedBuildModel", "there", "(I)V"⟩, 40) := ⟨⟨by decide +kernel, by decide +kernel⟩, List.mem_of_getElem? (i := 735) (by decide +kernel), List.mem_of_getElem? (i := 1006) (by decide +kernel), List.mem_of_getElem? (i := 1007) (by decide +kernel)⟩
theorem lw_p45 : lw_okq (⟨"TracedBuildModel", "record", "(I)V"⟩, 40) := ⟨⟨by decide +kernel, by decide +kernel⟩, List.mem_of_getElem? (i := 735) (by decide +kernel), List.mem_of_getElem? (i := 1010) (by decide +kernel), List.mem_of_getElem? (i := 1011) (by decide +kernel)⟩
theorem lw_p46 : lw_okq (⟨"TracedBuildModel", "copyTrace", "(II)V"⟩, 40) := ⟨⟨by decide +kernel, by decide +kernel⟩, List.mem_of_getElem? (i := 735) (by decide +kernel), List.mem_of_getElem? (i := 1014) (by decide +kernel), List.mem_of_getElem? (i := 1015) (by decide +kernel)⟩
theorem lw_p47 : lw_okq (⟨"TracedBuildModel", "write", "(I)V"⟩, 40) := ⟨⟨by decide +kernel, by decide +kernel⟩, List.mem_of_getElem? (i := 735) (by decide +kernel), List.mem_of_getElem? (i := 1018) (by decide +kernel), List.mem_of_getElem? (i := 1019) (by decide +kernel)⟩
def lw_privs_3 : List (MethodName × Nat) := [(⟨"TracedBuildModel", "isWritten", "(I)Z"⟩, 40), (⟨"TracedBuildModel", "latestOf", "(I)I"⟩, 40), (⟨"TracedBuildModel", "work", "(I)V"⟩, 40), (⟨"TracedBuildModel", "letter", "(II)I"⟩, 40), (⟨"TracedBuildModel", "readFile", "(I)V"⟩, 40), (⟨"TracedBuildModel", "addAll", "(II)V"⟩, 40), (⟨"TracedBuildModel", "add", "(I)V"⟩, 40), (⟨"TracedBuildModel", "join", "(II)V"⟩, 40), (⟨"TracedBuildModel", "sums", "(II)V"⟩, 40), (⟨"TracedBuildModel", "sort", "()V"⟩, 40), (⟨"TracedBuildModel", "digits", "(II)V"⟩, 40), (⟨"TracedBuildModel", "ask", "(I)V"⟩, 40), (⟨"TracedBuildModel", "there", "(I)V"⟩, 40), (⟨"TracedBuildModel", "record", "(I)V"⟩, 40), (⟨"TracedBuildModel", "copyTrace", "(II)V"⟩, 40), (⟨"TracedBuildModel", "write", "(I)V"⟩, 40)]
theorem lw_r3 : ∀ q ∈ lw_privs_3, lw_okq q := List.forall_mem_cons.mpr ⟨lw_p32, List.forall_mem_cons.mpr ⟨lw_p33, List.forall_mem_cons.mpr ⟨lw_p34, List.forall_mem_cons.mpr ⟨lw_p35, List.forall_mem_cons.mpr ⟨lw_p36, List.forall_mem_cons.mpr ⟨lw_p37, List.forall_mem_cons.mpr ⟨lw_p38, List.forall_mem_cons.mpr ⟨lw_p39, List.forall_mem_cons.mpr ⟨lw_p40, List.forall_mem_cons.mpr ⟨lw_p41, List.forall_mem_cons.mpr ⟨lw_p42, List.forall_mem_cons.mpr ⟨lw_p43, List.forall_mem_cons.mpr ⟨lw_p44, List.forall_mem_cons.mpr ⟨lw_p45, List.forall_mem_cons.mpr ⟨lw_p46, List.forall_mem_cons.mpr ⟨lw_p47, fun _ h => absurd h List.not_mem_nil⟩⟩⟩⟩⟩⟩⟩⟩⟩⟩⟩⟩⟩⟩⟩⟩
theorem lw_p48 : lw_okq (⟨"TracedBuildModel", "isHazard", "(I)Z"⟩, 40) := ⟨⟨by decide +kernel, by decide +kernel⟩, List.mem_of_getElem? (i := 735) (by decide +kernel), List.mem_of_getElem? (i := 1022) (by decide +kernel), List.mem_of_getElem? (i := 1023) (by decide +kernel)⟩
theorem lw_p49 : lw_okq (⟨"TracedBuildModel", "isHazardOf", "(IZ)Z"⟩, 40) := ⟨⟨by decide +kernel, by decide +kernel⟩, List.mem_of_getElem? (i := 735) (by decide +kernel), List.mem_of_getElem? (i := 1026) (by decide +kernel), List.mem_of_getElem? (i := 1027) (by decide +kernel)⟩
theorem lw_p50 : lw_okq (⟨"TracedBuildModel", "kindOf", "(II)I"⟩, 40) := ⟨⟨by decide +kernel, by decide +kernel⟩, List.mem_of_getElem? (i := 735) (by decide +kernel), List.mem_of_getElem? (i := 1030) (by decide +kernel), List.mem_of_getElem? (i := 1031) (by decide +kernel)⟩
theorem lw_p51 : lw_okq (⟨"TracedBuildModel", "meets", "(II)Z"⟩, 40) := ⟨⟨by decide +kernel, by decide +kernel⟩, List.mem_of_getElem? (i := 735) (by decide +kernel), List.mem_of_getElem? (i := 1034) (by decide +kernel), List.mem_of_getElem? (i := 1035) (by decide +kernel)⟩
theorem lw_p52 : lw_okq (⟨"TracedBuildModel", "tryAhead", "(II)Z"⟩, 40) := ⟨⟨by decide +kernel, by decide +kernel⟩, List.mem_of_getElem? (i := 735) (by decide +kernel), List.mem_of_getElem? (i := 1038) (by decide +kernel), List.mem_of_getElem? (i := 1039) (by decide +kernel)⟩
theorem lw_p53 : lw_okq (⟨"TracedBuildModel", "isSafe", "(II)Z"⟩, 40) := ⟨⟨by decide +kernel, by decide +kernel⟩, List.mem_of_getElem? (i := 735) (by decide +kernel), List.mem_of_getElem? (i := 1042) (by decide +kernel), List.mem_of_getElem? (i := 1043) (by decide +kernel)⟩
theorem lw_p54 : lw_okq (⟨"TracedBuildModel", "apart", "(II)Z"⟩, 40) := ⟨⟨by decide +kernel, by decide +kernel⟩, List.mem_of_getElem? (i := 735) (by decide +kernel), List.mem_of_getElem? (i := 1046) (by decide +kernel), List.mem_of_getElem? (i := 1047) (by decide +kernel)⟩
theorem lw_p55 : lw_okq (⟨"TracedBuildModel", "wasRun", "(I)Z"⟩, 40) := ⟨⟨by decide +kernel, by decide +kernel⟩, List.mem_of_getElem? (i := 735) (by decide +kernel), List.mem_of_getElem? (i := 1054) (by decide +kernel), List.mem_of_getElem? (i := 1055) (by decide +kernel)⟩
theorem lw_p56 : lw_okq (⟨"TracedBuildModel", "sameText", "(II)Z"⟩, 40) := ⟨⟨by decide +kernel, by decide +kernel⟩, List.mem_of_getElem? (i := 735) (by decide +kernel), List.mem_of_getElem? (i := 1086) (by decide +kernel), List.mem_of_getElem? (i := 1087) (by decide +kernel)⟩
def lw_privs_4 : List (MethodName × Nat) := [(⟨"TracedBuildModel", "isHazard", "(I)Z"⟩, 40), (⟨"TracedBuildModel", "isHazardOf", "(IZ)Z"⟩, 40), (⟨"TracedBuildModel", "kindOf", "(II)I"⟩, 40), (⟨"TracedBuildModel", "meets", "(II)Z"⟩, 40), (⟨"TracedBuildModel", "tryAhead", "(II)Z"⟩, 40), (⟨"TracedBuildModel", "isSafe", "(II)Z"⟩, 40), (⟨"TracedBuildModel", "apart", "(II)Z"⟩, 40), (⟨"TracedBuildModel", "wasRun", "(I)Z"⟩, 40), (⟨"TracedBuildModel", "sameText", "(II)Z"⟩, 40)]
theorem lw_r4 : ∀ q ∈ lw_privs_4, lw_okq q := List.forall_mem_cons.mpr ⟨lw_p48, List.forall_mem_cons.mpr ⟨lw_p49, List.forall_mem_cons.mpr ⟨lw_p50, List.forall_mem_cons.mpr ⟨lw_p51, List.forall_mem_cons.mpr ⟨lw_p52, List.forall_mem_cons.mpr ⟨lw_p53, List.forall_mem_cons.mpr ⟨lw_p54, List.forall_mem_cons.mpr ⟨lw_p55, List.forall_mem_cons.mpr ⟨lw_p56, fun _ h => absurd h List.not_mem_nil⟩⟩⟩⟩⟩⟩⟩⟩⟩
def lw_privs : List (MethodName × Nat) := lw_privs_1 ++ (lw_privs_2 ++ (lw_privs_3 ++ (lw_privs_4)))
def lw_tbl : List Cond := k2_sels lw_privs ++ tables_1
theorem lw_privs_ok : ∀ q ∈ lw_privs, lw_okq q := by
  show ∀ q ∈ lw_privs_1 ++ (lw_privs_2 ++ (lw_privs_3 ++ (lw_privs_4))), lw_okq q
  exact List.forall_mem_append.mpr ⟨lw_r1, List.forall_mem_append.mpr ⟨lw_r2, List.forall_mem_append.mpr ⟨lw_r3, lw_r4⟩⟩⟩
end
section
/-! The classes, their fields, the methods: laid by program out of the statement and the listing. -/
def n_De : String := "TracedBuild$Deed"
def T_De : u_T := fun k => match k with
  | 0 => ("TracedBuild$Deed", "outcome", "I", false)
  | 1 => ("TracedBuild$Deed", "reason", "I", false)
  | 2 => ("TracedBuild$Deed", "ahead", "Z", false)
  | 3 => ("TracedBuild$Deed", "read", "I", false)
  | 4 => ("TracedBuild$Deed", "asked", "I", false)
  | 5 => ("TracedBuild$Deed", "written", "I", false)
  | _ => ("TracedBuild$Deed", "cameOrWent", "I", false)
def y_De : Nat → FieldType := fun k => match k with
  | 0 => .int
  | 1 => .int
  | 2 => .boolean
  | 3 => .int
  | 4 => .int
  | 5 => .int
  | _ => .int
theorem nm_De : ∀ a, a < 7 → ∀ b, b < 7 → a ≠ b → (T_De a).2.1 ≠ (T_De b).2.1 := by decide +kernel
theorem ty_De : ∀ k, k < 7 → parseFieldDescriptor (T_De k).2.2.1 = some (y_De k) := by decide +kernel
def n_Lg : String := "TracedBuild$Log"
def T_Lg : u_T := fun k => match k with
  | 0 => ("TracedBuild$Log", "deeds", "[LTracedBuild$Deed;", true)
  | 1 => ("TracedBuild$Log", "length", "I", false)
  | 2 => ("TracedBuild$Log", "kind", "I", false)
  | 3 => ("TracedBuild$Log", "earlier", "I", false)
  | 4 => ("TracedBuild$Log", "later", "I", false)
  | 5 => ("TracedBuild$Log", "file", "I", false)
  | _ => ("TracedBuild$Log", "speculative", "Z", false)
def y_Lg : Nat → FieldType := fun k => match k with
  | 0 => .array (.object "TracedBuild$Deed")
  | 1 => .int
  | 2 => .int
  | 3 => .int
  | 4 => .int
  | 5 => .int
  | _ => .boolean
theorem nm_Lg : ∀ a, a < 7 → ∀ b, b < 7 → a ≠ b → (T_Lg a).2.1 ≠ (T_Lg b).2.1 := by decide +kernel
theorem ty_Lg : ∀ k, k < 7 → parseFieldDescriptor (T_Lg k).2.2.1 = some (y_Lg k) := by decide +kernel
def n_Sc : String := "TracedBuild$Script"
def T_Sc : u_T := fun k => match k with
  | 0 => ("TracedBuild$Script", "texts", "[LTracedBuild$Text;", true)
  | _ => ("TracedBuild$Script", "length", "I", false)
def y_Sc : Nat → FieldType := fun k => match k with
  | 0 => .array (.object "TracedBuild$Text")
  | _ => .int
theorem nm_Sc : ∀ a, a < 2 → ∀ b, b < 2 → a ≠ b → (T_Sc a).2.1 ≠ (T_Sc b).2.1 := by decide +kernel
theorem ty_Sc : ∀ k, k < 2 → parseFieldDescriptor (T_Sc k).2.2.1 = some (y_Sc k) := by decide +kernel
def n_Sh : String := "TracedBuild$Shelf"
def T_Sh : u_T := fun k => match k with
  | 0 => ("TracedBuild$Shelf", "lengths", "[I", true)
  | _ => ("TracedBuild$Shelf", "numbers", "[S", true)
def y_Sh : Nat → FieldType := fun k => match k with
  | 0 => .array .int
  | _ => .array .short
theorem nm_Sh : ∀ a, a < 2 → ∀ b, b < 2 → a ≠ b → (T_Sh a).2.1 ≠ (T_Sh b).2.1 := by decide +kernel
theorem ty_Sh : ∀ k, k < 2 → parseFieldDescriptor (T_Sh k).2.2.1 = some (y_Sh k) := by decide +kernel
def n_St : String := "TracedBuild$Store"
def T_St : u_T := fun k => match k with
  | 0 => ("TracedBuild$Store", "rows", "[LTracedBuild$Trace;", true)
  | _ => ("TracedBuild$Store", "length", "I", false)
def y_St : Nat → FieldType := fun k => match k with
  | 0 => .array (.object "TracedBuild$Trace")
  | _ => .int
theorem nm_St : ∀ a, a < 2 → ∀ b, b < 2 → a ≠ b → (T_St a).2.1 ≠ (T_St b).2.1 := by decide +kernel
theorem ty_St : ∀ k, k < 2 → parseFieldDescriptor (T_St k).2.2.1 = some (y_St k) := by decide +kernel
def n_Tx : String := "TracedBuild$Text"
def T_Tx : u_T := fun k => match k with
  | 0 => ("TracedBuild$Text", "characters", "[C", true)
  | _ => ("TracedBuild$Text", "length", "I", false)
def y_Tx : Nat → FieldType := fun k => match k with
  | 0 => .array .char
  | _ => .int
theorem nm_Tx : ∀ a, a < 2 → ∀ b, b < 2 → a ≠ b → (T_Tx a).2.1 ≠ (T_Tx b).2.1 := by decide +kernel
theorem ty_Tx : ∀ k, k < 2 → parseFieldDescriptor (T_Tx k).2.2.1 = some (y_Tx k) := by decide +kernel
def n_Tr : String := "TracedBuild$Trace"
def T_Tr : u_T := fun k => match k with
  | 0 => ("TracedBuild$Trace", "text", "LTracedBuild$Text;", true)
  | 1 => ("TracedBuild$Trace", "shelf", "LTracedBuild$Shelf;", true)
  | 2 => ("TracedBuild$Trace", "read", "I", false)
  | 3 => ("TracedBuild$Trace", "asked", "I", false)
  | _ => ("TracedBuild$Trace", "wrote", "I", false)
def y_Tr : Nat → FieldType := fun k => match k with
  | 0 => .object "TracedBuild$Text"
  | 1 => .object "TracedBuild$Shelf"
  | 2 => .int
  | 3 => .int
  | _ => .int
theorem nm_Tr : ∀ a, a < 5 → ∀ b, b < 5 → a ≠ b → (T_Tr a).2.1 ≠ (T_Tr b).2.1 := by decide +kernel
theorem ty_Tr : ∀ k, k < 5 → parseFieldDescriptor (T_Tr k).2.2.1 = some (y_Tr k) := by decide +kernel
def n_TB : String := "TracedBuild"
def T_TB : u_T := fun k => match k with
  | 0 => ("TracedBuild", "hand", "LTracedBuild$Text;", true)
  | 1 => ("TracedBuild", "script", "LTracedBuild$Script;", true)
  | 2 => ("TracedBuild", "files", "LTracedBuild$Shelf;", true)
  | 3 => ("TracedBuild", "filesAtBegin", "LTracedBuild$Shelf;", true)
  | 4 => ("TracedBuild", "store", "LTracedBuild$Store;", true)
  | 5 => ("TracedBuild", "log", "LTracedBuild$Log;", true)
  | 6 => ("TracedBuild", "logHolds", "Z", false)
  | _ => ("TracedBuild", "runsOnceMore", "I", false)
def y_TB : Nat → FieldType := fun k => match k with
  | 0 => .object "TracedBuild$Text"
  | 1 => .object "TracedBuild$Script"
  | 2 => .object "TracedBuild$Shelf"
  | 3 => .object "TracedBuild$Shelf"
  | 4 => .object "TracedBuild$Store"
  | 5 => .object "TracedBuild$Log"
  | 6 => .boolean
  | _ => .int
theorem nm_TB : ∀ a, a < 8 → ∀ b, b < 8 → a ≠ b → (T_TB a).2.1 ≠ (T_TB b).2.1 := by decide +kernel
theorem ty_TB : ∀ k, k < 8 → parseFieldDescriptor (T_TB k).2.2.1 = some (y_TB k) := by decide +kernel
def n_Mo : String := "TracedBuildModel"
def T_Mo : u_T := fun k => match k with
  | 0 => ("TracedBuildModel", "code", "I", false)
  | 1 => ("TracedBuildModel", "size", "[I", true)
  | 2 => ("TracedBuildModel", "cell", "[I", true)
  | 3 => ("TracedBuildModel", "oldSize", "[I", true)
  | 4 => ("TracedBuildModel", "oldCell", "[I", true)
  | 5 => ("TracedBuildModel", "typed", "I", false)
  | 6 => ("TracedBuildModel", "text", "[I", true)
  | 7 => ("TracedBuildModel", "commands", "I", false)
  | 8 => ("TracedBuildModel", "length", "[I", true)
  | 9 => ("TracedBuildModel", "texts", "[I", true)
  | 10 => ("TracedBuildModel", "traces", "I", false)
  | 11 => ("TracedBuildModel", "traceLength", "[I", true)
  | 12 => ("TracedBuildModel", "traceText", "[I", true)
  | 13 => ("TracedBuildModel", "traceRead", "[I", true)
  | 14 => ("TracedBuildModel", "traceAsked", "[I", true)
  | 15 => ("TracedBuildModel", "traceThere", "[I", true)
  | 16 => ("TracedBuildModel", "traceSize", "[I", true)
  | 17 => ("TracedBuildModel", "traceCell", "[I", true)
  | 18 => ("TracedBuildModel", "traceFile", "[I", true)
  | 19 => ("TracedBuildModel", "since", "[I", true)
  | 20 => ("TracedBuildModel", "sinceCell", "[I", true)
  | 21 => ("TracedBuildModel", "read", "I", false)
  | 22 => ("TracedBuildModel", "asked", "I", false)
  | 23 => ("TracedBuildModel", "target", "I", false)
  | 24 => ("TracedBuildModel", "made", "I", false)
  | 25 => ("TracedBuildModel", "result", "[I", true)
  | 26 => ("TracedBuildModel", "ran", "Z", false)
  | 27 => ("TracedBuildModel", "done", "[Z", true)
  | 28 => ("TracedBuildModel", "ahead", "[Z", true)
  | 29 => ("TracedBuildModel", "how", "[I", true)
  | 30 => ("TracedBuildModel", "cause", "[I", true)
  | 31 => ("TracedBuildModel", "reads", "[I", true)
  | 32 => ("TracedBuildModel", "asks", "[I", true)
  | 33 => ("TracedBuildModel", "wrote", "[I", true)
  | 34 => ("TracedBuildModel", "turned", "[Z", true)
  | 35 => ("TracedBuildModel", "hazardKind", "I", false)
  | 36 => ("TracedBuildModel", "hazardE", "I", false)
  | 37 => ("TracedBuildModel", "hazardF", "I", false)
  | 38 => ("TracedBuildModel", "hazardFile", "I", false)
  | _ => ("TracedBuildModel", "repeats", "I", false)
def y_Mo : Nat → FieldType := fun k => match k with
  | 0 => .int
  | 1 => .array .int
  | 2 => .array .int
  | 3 => .array .int
  | 4 => .array .int
  | 5 => .int
  | 6 => .array .int
  | 7 => .int
  | 8 => .array .int
  | 9 => .array .int
  | 10 => .int
  | 11 => .array .int
  | 12 => .array .int
  | 13 => .array .int
  | 14 => .array .int
  | 15 => .array .int
  | 16 => .array .int
  | 17 => .array .int
  | 18 => .array .int
  | 19 => .array .int
  | 20 => .array .int
  | 21 => .int
  | 22 => .int
  | 23 => .int
  | 24 => .int
  | 25 => .array .int
  | 26 => .boolean
  | 27 => .array .boolean
  | 28 => .array .boolean
  | 29 => .array .int
  | 30 => .array .int
  | 31 => .array .int
  | 32 => .array .int
  | 33 => .array .int
  | 34 => .array .boolean
  | 35 => .int
  | 36 => .int
  | 37 => .int
  | 38 => .int
  | _ => .int
theorem nm_Mo : ∀ a, a < 40 → ∀ b, b < 40 → a ≠ b → (T_Mo a).2.1 ≠ (T_Mo b).2.1 := by decide +kernel
theorem ty_Mo : ∀ k, k < 40 → parseFieldDescriptor (T_Mo k).2.2.1 = some (y_Mo k) := by decide +kernel
abbrev tb_cl : List vw_C := [(n_De, T_De, 7), (n_Lg, T_Lg, 7), (n_Sc, T_Sc, 2), (n_Sh, T_Sh, 2), (n_St, T_St, 2), (n_Tx, T_Tx, 2), (n_Tr, T_Tr, 5), (n_TB, T_TB, 8), (n_Mo, T_Mo, 40)]
def tb_ft : List (List Bool) := [[false, false, false, false, false, false, false], [true, false, false, false, false, false, false], [true, false], [true, true], [true, false], [true, false], [true, true, false, false, false], [true, true, true, true, true, true, false, false], [false, true, true, true, true, false, true, false, true, true, false, true, true, true, true, true, true, true, true, true, true, false, false, false, false, true, false, true, true, true, true, true, true, true, true, false, false, false, false, false]]
def tb_ty : List FieldType := [.int, .short, .char, .boolean, .long, .object "TracedBuild$Text", .object "TracedBuild$Trace", .object "TracedBuild$Deed"]
def tb_nF : List (String × Nat × String × String × String × String) := [("TracedBuild$Craft", 47, "TracedBuild$Trace", "text", "LTracedBuild$Text;", "TracedBuild"), ("TracedBuild$Store", 53, "TracedBuild$Trace", "text", "LTracedBuild$Text;", "TracedBuild"), ("TracedBuild$Craft", 31, "TracedBuild$Trace", "shelf", "LTracedBuild$Shelf;", "TracedBuild"), ("TracedBuild$Craft", 91, "TracedBuild$Trace", "read", "I", "TracedBuild"), ("TracedBuild$Deed", 22, "TracedBuild$Trace", "read", "I", "TracedBuild"), ("TracedBuild$Deed", 28, "TracedBuild$Trace", "asked", "I", "TracedBuild"), ("TracedBuild$Craft", 103, "TracedBuild$Trace", "asked", "I", "TracedBuild"), ("TracedBuild$Craft", 54, "TracedBuild$Trace", "wrote", "I", "TracedBuild"), ("TracedBuild", 137, "TracedBuild$Deed", "outcome", "I", "TracedBuild"), ("TracedBuild", 142, "TracedBuild$Deed", "reason", "I", "TracedBuild"), ("TracedBuild$Log", 49, "TracedBuild$Deed", "ahead", "Z", "TracedBuild"), ("TracedBuild$Log", 70, "TracedBuild$Deed", "read", "I", "TracedBuild"), ("TracedBuild$Log", 73, "TracedBuild$Deed", "asked", "I", "TracedBuild"), ("TracedBuild$Log", 67, "TracedBuild$Deed", "written", "I", "TracedBuild"), ("TracedBuild$Log", 76, "TracedBuild$Deed", "cameOrWent", "I", "TracedBuild")]
def tb_nM : List (String × Nat × MethodName × String) := [("TracedBuild$Log", 17, ⟨"TracedBuild$Deed", "<init>", "()V"⟩, "TracedBuild"), ("TracedBuild$Store", 41, ⟨"TracedBuild", "firstOf", "(I)I"⟩, "TracedBuild"), ("TracedBuild$Log", 63, ⟨"TracedBuild", "firstOf", "(I)I"⟩, "TracedBuild")]
def tb_nA : List String := ["TracedBuild$Text", "TracedBuild$Trace", "TracedBuild$Deed"]
def tb_nest : List Cond := tb_nF.map (fun q => .fieldLinkNest q.1 q.2.1 q.2.2.1 q.2.2.2.1 q.2.2.2.2.1 q.2.2.2.2.2) ++ tb_nM.map (fun q => .methodLinkNest q.1 q.2.1 q.2.2.1 q.2.2.2) ++ tb_nA.map (fun q => .arrayOver (.object q))
def m_De_init : MethodName × ByteArray × Nat × Option FieldType × List (Nat × Nat × Nat × Nat) := (⟨"TracedBuild$Deed", "<init>", "()V"⟩, prog_3_method_1_code, 1, none, [])
def m_De_forget : MethodName × ByteArray × Nat × Option FieldType × List (Nat × Nat × Nat × Nat) := (⟨"TracedBuild$Deed", "forget", "()V"⟩, prog_3_method_2_code, 1, none, [])
def m_De_isDone : MethodName × ByteArray × Nat × Option FieldType × List (Nat × Nat × Nat × Nat) := (⟨"TracedBuild$Deed", "isDone", "()Z"⟩, prog_3_method_3_code, 1, (some .boolean), [])
def m_De_keepOutcome : MethodName × ByteArray × Nat × Option FieldType × List (Nat × Nat × Nat × Nat) := (⟨"TracedBuild$Deed", "keepOutcome", "(IZI)V"⟩, prog_3_method_4_code, 4, none, [])
def m_De_keepTraced : MethodName × ByteArray × Nat × Option FieldType × List (Nat × Nat × Nat × Nat) := (⟨"TracedBuild$Deed", "keepTraced", "(LTracedBuild$Trace;I)V"⟩, prog_3_method_5_code, 3, none, [])
def m_Lg_init : MethodName × ByteArray × Nat × Option FieldType × List (Nat × Nat × Nat × Nat) := (⟨"TracedBuild$Log", "<init>", "()V"⟩, prog_4_method_1_code, 2, none, [])
def m_Lg_deed : MethodName × ByteArray × Nat × Option FieldType × List (Nat × Nat × Nat × Nat) := (⟨"TracedBuild$Log", "deed", "(I)LTracedBuild$Deed;"⟩, prog_4_method_3_code, 2, (some (.object "TracedBuild$Deed")), [])
def m_Lg_hazardPart : MethodName × ByteArray × Nat × Option FieldType × List (Nat × Nat × Nat × Nat) := (⟨"TracedBuild$Log", "hazardPart", "(I)I"⟩, prog_4_method_6_code, 2, (some .int), [])
def m_Lg_hasHazard : MethodName × ByteArray × Nat × Option FieldType × List (Nat × Nat × Nat × Nat) := (⟨"TracedBuild$Log", "hasHazard", "()Z"⟩, prog_4_method_4_code, 1, (some .boolean), [])
def m_Lg_begin : MethodName × ByteArray × Nat × Option FieldType × List (Nat × Nat × Nat × Nat) := (⟨"TracedBuild$Log", "begin", "(I)V"⟩, prog_4_method_2_code, 3, none, [])
def m_Lg_lookForHazard : MethodName × ByteArray × Nat × Option FieldType × List (Nat × Nat × Nat × Nat) := (⟨"TracedBuild$Log", "lookForHazard", "(I)V"⟩, prog_4_method_7_code, 2, none, [])
def m_Lg_lookForHazard2 : MethodName × ByteArray × Nat × Option FieldType × List (Nat × Nat × Nat × Nat) := (⟨"TracedBuild$Log", "lookForHazard", "(IZ)V"⟩, prog_4_method_8_code, 5, none, [])
def m_Lg_lookBetween : MethodName × ByteArray × Nat × Option FieldType × List (Nat × Nat × Nat × Nat) := (⟨"TracedBuild$Log", "lookBetween", "(IIZ)V"⟩, prog_4_method_9_code, 6, none, [])
def m_Lg_filesInTheWay : MethodName × ByteArray × Nat × Option FieldType × List (Nat × Nat × Nat × Nat) := (⟨"TracedBuild$Log", "filesInTheWay", "(III)I"⟩, prog_4_method_10_code, 6, (some .int), [])
def m_Lg_isSpeculative : MethodName × ByteArray × Nat × Option FieldType × List (Nat × Nat × Nat × Nat) := (⟨"TracedBuild$Log", "isSpeculative", "()Z"⟩, prog_4_method_5_code, 1, (some .boolean), [])
def m_Sc_init : MethodName × ByteArray × Nat × Option FieldType × List (Nat × Nat × Nat × Nat) := (⟨"TracedBuild$Script", "<init>", "()V"⟩, prog_5_method_1_code, 2, none, [])
def m_Sc_length : MethodName × ByteArray × Nat × Option FieldType × List (Nat × Nat × Nat × Nat) := (⟨"TracedBuild$Script", "length", "()I"⟩, prog_5_method_2_code, 1, (some .int), [])
def m_Sc_has : MethodName × ByteArray × Nat × Option FieldType × List (Nat × Nat × Nat × Nat) := (⟨"TracedBuild$Script", "has", "(I)Z"⟩, prog_5_method_4_code, 2, (some .boolean), [])
def m_Sc_isFull : MethodName × ByteArray × Nat × Option FieldType × List (Nat × Nat × Nat × Nat) := (⟨"TracedBuild$Script", "isFull", "()Z"⟩, prog_5_method_3_code, 1, (some .boolean), [])
def m_Sc_append : MethodName × ByteArray × Nat × Option FieldType × List (Nat × Nat × Nat × Nat) := (⟨"TracedBuild$Script", "append", "(LTracedBuild$Text;)I"⟩, prog_5_method_6_code, 2, (some .int), [])
def m_Sc_at : MethodName × ByteArray × Nat × Option FieldType × List (Nat × Nat × Nat × Nat) := (⟨"TracedBuild$Script", "at", "(I)LTracedBuild$Text;"⟩, prog_5_method_5_code, 2, (some (.object "TracedBuild$Text")), [])
def m_Sc_takeOut : MethodName × ByteArray × Nat × Option FieldType × List (Nat × Nat × Nat × Nat) := (⟨"TracedBuild$Script", "takeOut", "(I)V"⟩, prog_5_method_7_code, 4, none, [])
def m_Sh_init : MethodName × ByteArray × Nat × Option FieldType × List (Nat × Nat × Nat × Nat) := (⟨"TracedBuild$Shelf", "<init>", "(I)V"⟩, prog_6_method_1_code, 3, none, [])
def m_Sh_append : MethodName × ByteArray × Nat × Option FieldType × List (Nat × Nat × Nat × Nat) := (⟨"TracedBuild$Shelf", "append", "(IS)Z"⟩, prog_6_method_7_code, 4, (some .boolean), [])
def m_Sh_length : MethodName × ByteArray × Nat × Option FieldType × List (Nat × Nat × Nat × Nat) := (⟨"TracedBuild$Shelf", "length", "(I)I"⟩, prog_6_method_3_code, 2, (some .int), [])
def m_Sh_isThere : MethodName × ByteArray × Nat × Option FieldType × List (Nat × Nat × Nat × Nat) := (⟨"TracedBuild$Shelf", "isThere", "(I)Z"⟩, prog_6_method_2_code, 2, (some .boolean), [])
def m_Sh_takeAway : MethodName × ByteArray × Nat × Option FieldType × List (Nat × Nat × Nat × Nat) := (⟨"TracedBuild$Shelf", "takeAway", "(I)V"⟩, prog_6_method_5_code, 2, none, [])
def m_Sh_becomeAll : MethodName × ByteArray × Nat × Option FieldType × List (Nat × Nat × Nat × Nat) := (⟨"TracedBuild$Shelf", "becomeAll", "(LTracedBuild$Shelf;)V"⟩, prog_6_method_9_code, 3, none, [])
def m_Sh_become : MethodName × ByteArray × Nat × Option FieldType × List (Nat × Nat × Nat × Nat) := (⟨"TracedBuild$Shelf", "become", "(ILTracedBuild$Shelf;I)V"⟩, prog_6_method_8_code, 5, none, [])
def m_Sh_thoseThere : MethodName × ByteArray × Nat × Option FieldType × List (Nat × Nat × Nat × Nat) := (⟨"TracedBuild$Shelf", "thoseThere", "()I"⟩, prog_6_method_11_code, 3, (some .int), [])
def m_Sh_isSame : MethodName × ByteArray × Nat × Option FieldType × List (Nat × Nat × Nat × Nat) := (⟨"TracedBuild$Shelf", "isSame", "(ILTracedBuild$Shelf;I)Z"⟩, prog_6_method_10_code, 5, (some .boolean), [])
def m_Sh_at : MethodName × ByteArray × Nat × Option FieldType × List (Nat × Nat × Nat × Nat) := (⟨"TracedBuild$Shelf", "at", "(II)S"⟩, prog_6_method_4_code, 3, (some .short), [])
def m_Sh_makeEmpty : MethodName × ByteArray × Nat × Option FieldType × List (Nat × Nat × Nat × Nat) := (⟨"TracedBuild$Shelf", "makeEmpty", "(I)V"⟩, prog_6_method_6_code, 2, none, [])
def m_Sh_sort : MethodName × ByteArray × Nat × Option FieldType × List (Nat × Nat × Nat × Nat) := (⟨"TracedBuild$Shelf", "sort", "(I)V"⟩, prog_6_method_12_code, 6, none, [])
def m_St_init : MethodName × ByteArray × Nat × Option FieldType × List (Nat × Nat × Nat × Nat) := (⟨"TracedBuild$Store", "<init>", "()V"⟩, prog_7_method_1_code, 2, none, [])
def m_St_length : MethodName × ByteArray × Nat × Option FieldType × List (Nat × Nat × Nat × Nat) := (⟨"TracedBuild$Store", "length", "()I"⟩, prog_7_method_2_code, 1, (some .int), [])
def m_St_cutTo : MethodName × ByteArray × Nat × Option FieldType × List (Nat × Nat × Nat × Nat) := (⟨"TracedBuild$Store", "cutTo", "(I)Z"⟩, prog_7_method_8_code, 2, (some .boolean), [])
def m_St_keepLatest : MethodName × ByteArray × Nat × Option FieldType × List (Nat × Nat × Nat × Nat) := (⟨"TracedBuild$Store", "keepLatest", "()I"⟩, prog_7_method_9_code, 4, (some .int), [])
def m_St_isFollowedByItsLike : MethodName × ByteArray × Nat × Option FieldType × List (Nat × Nat × Nat × Nat) := (⟨"TracedBuild$Store", "isFollowedByItsLike", "(I)Z"⟩, prog_7_method_10_code, 3, (some .boolean), [])
def m_St_swap : MethodName × ByteArray × Nat × Option FieldType × List (Nat × Nat × Nat × Nat) := (⟨"TracedBuild$Store", "swap", "(II)V"⟩, prog_7_method_11_code, 4, none, [])
def m_St_fitting : MethodName × ByteArray × Nat × Option FieldType × List (Nat × Nat × Nat × Nat) := (⟨"TracedBuild$Store", "fitting", "(LTracedBuild$Text;LTracedBuild$Shelf;)LTracedBuild$Trace;"⟩, prog_7_method_5_code, 4, (some (.object "TracedBuild$Trace")), [])
def m_St_reasonToRun : MethodName × ByteArray × Nat × Option FieldType × List (Nat × Nat × Nat × Nat) := (⟨"TracedBuild$Store", "reasonToRun", "(LTracedBuild$Text;LTracedBuild$Shelf;)I"⟩, prog_7_method_6_code, 5, (some .int), [])
def m_St_latest : MethodName × ByteArray × Nat × Option FieldType × List (Nat × Nat × Nat × Nat) := (⟨"TracedBuild$Store", "latest", "(LTracedBuild$Text;)LTracedBuild$Trace;"⟩, prog_7_method_4_code, 3, (some (.object "TracedBuild$Trace")), [])
def m_St_append : MethodName × ByteArray × Nat × Option FieldType × List (Nat × Nat × Nat × Nat) := (⟨"TracedBuild$Store", "append", "()LTracedBuild$Trace;"⟩, prog_7_method_7_code, 3, (some (.object "TracedBuild$Trace")), [])
def m_St_at : MethodName × ByteArray × Nat × Option FieldType × List (Nat × Nat × Nat × Nat) := (⟨"TracedBuild$Store", "at", "(I)LTracedBuild$Trace;"⟩, prog_7_method_3_code, 2, (some (.object "TracedBuild$Trace")), [])
def m_Tx_init : MethodName × ByteArray × Nat × Option FieldType × List (Nat × Nat × Nat × Nat) := (⟨"TracedBuild$Text", "<init>", "()V"⟩, prog_8_method_1_code, 1, none, [])
def m_Tx_append : MethodName × ByteArray × Nat × Option FieldType × List (Nat × Nat × Nat × Nat) := (⟨"TracedBuild$Text", "append", "(C)Z"⟩, prog_8_method_4_code, 2, (some .boolean), [])
def m_Tx_isSame : MethodName × ByteArray × Nat × Option FieldType × List (Nat × Nat × Nat × Nat) := (⟨"TracedBuild$Text", "isSame", "(LTracedBuild$Text;)Z"⟩, prog_8_method_7_code, 3, (some .boolean), [])
def m_Tx_isCommand : MethodName × ByteArray × Nat × Option FieldType × List (Nat × Nat × Nat × Nat) := (⟨"TracedBuild$Text", "isCommand", "()Z"⟩, prog_8_method_10_code, 2, (some .boolean), [])
def m_Tx_at : MethodName × ByteArray × Nat × Option FieldType × List (Nat × Nat × Nat × Nat) := (⟨"TracedBuild$Text", "at", "(I)C"⟩, prog_8_method_3_code, 2, (some .char), [])
def m_Tx_fileAt : MethodName × ByteArray × Nat × Option FieldType × List (Nat × Nat × Nat × Nat) := (⟨"TracedBuild$Text", "fileAt", "(I)I"⟩, prog_8_method_8_code, 3, (some .int), [])
def m_Tx_isPlainCommand : MethodName × ByteArray × Nat × Option FieldType × List (Nat × Nat × Nat × Nat) := (⟨"TracedBuild$Text", "isPlainCommand", "(I)Z"⟩, prog_8_method_11_code, 3, (some .boolean), [])
def m_Tx_isFilesToEnd : MethodName × ByteArray × Nat × Option FieldType × List (Nat × Nat × Nat × Nat) := (⟨"TracedBuild$Text", "isFilesToEnd", "(II)Z"⟩, prog_8_method_12_code, 4, (some .boolean), [])
def m_Tx_digitAt : MethodName × ByteArray × Nat × Option FieldType × List (Nat × Nat × Nat × Nat) := (⟨"TracedBuild$Text", "digitAt", "(I)I"⟩, prog_8_method_9_code, 3, (some .int), [])
def m_Tx_isDigitsAndFile : MethodName × ByteArray × Nat × Option FieldType × List (Nat × Nat × Nat × Nat) := (⟨"TracedBuild$Text", "isDigitsAndFile", "(I)Z"⟩, prog_8_method_13_code, 4, (some .boolean), [])
def m_Tx_clear : MethodName × ByteArray × Nat × Option FieldType × List (Nat × Nat × Nat × Nat) := (⟨"TracedBuild$Text", "clear", "()V"⟩, prog_8_method_5_code, 1, none, [])
def m_Tx_become : MethodName × ByteArray × Nat × Option FieldType × List (Nat × Nat × Nat × Nat) := (⟨"TracedBuild$Text", "become", "(LTracedBuild$Text;)V"⟩, prog_8_method_6_code, 3, none, [])
def m_Tx_length : MethodName × ByteArray × Nat × Option FieldType × List (Nat × Nat × Nat × Nat) := (⟨"TracedBuild$Text", "length", "()I"⟩, prog_8_method_2_code, 1, (some .int), [])
def m_Tr_init : MethodName × ByteArray × Nat × Option FieldType × List (Nat × Nat × Nat × Nat) := (⟨"TracedBuild$Trace", "<init>", "()V"⟩, prog_9_method_1_code, 1, none, [])
def m_Tr_isOf : MethodName × ByteArray × Nat × Option FieldType × List (Nat × Nat × Nat × Nat) := (⟨"TracedBuild$Trace", "isOf", "(LTracedBuild$Text;)Z"⟩, prog_9_method_3_code, 2, (some .boolean), [])
def m_Tr_fits : MethodName × ByteArray × Nat × Option FieldType × List (Nat × Nat × Nat × Nat) := (⟨"TracedBuild$Trace", "fits", "(LTracedBuild$Shelf;)Z"⟩, prog_9_method_7_code, 2, (some .boolean), [])
def m_Tr_askedAndChanged : MethodName × ByteArray × Nat × Option FieldType × List (Nat × Nat × Nat × Nat) := (⟨"TracedBuild$Trace", "askedAndChanged", "(LTracedBuild$Shelf;)I"⟩, prog_9_method_6_code, 2, (some .int), [])
def m_Tr_readAndChanged : MethodName × ByteArray × Nat × Option FieldType × List (Nat × Nat × Nat × Nat) := (⟨"TracedBuild$Trace", "readAndChanged", "(LTracedBuild$Shelf;)I"⟩, prog_9_method_5_code, 4, (some .int), [])
def m_Tr_begin : MethodName × ByteArray × Nat × Option FieldType × List (Nat × Nat × Nat × Nat) := (⟨"TracedBuild$Trace", "begin", "(LTracedBuild$Text;LTracedBuild$Shelf;)V"⟩, prog_9_method_2_code, 3, none, [])
def m_Tr_putBack : MethodName × ByteArray × Nat × Option FieldType × List (Nat × Nat × Nat × Nat) := (⟨"TracedBuild$Trace", "putBack", "(LTracedBuild$Shelf;)Z"⟩, prog_9_method_8_code, 2, (some .boolean), [])
def m_Tr_written : MethodName × ByteArray × Nat × Option FieldType × List (Nat × Nat × Nat × Nat) := (⟨"TracedBuild$Trace", "written", "()I"⟩, prog_9_method_4_code, 1, (some .int), [])
def m_Tr_isInTheWayOf : MethodName × ByteArray × Nat × Option FieldType × List (Nat × Nat × Nat × Nat) := (⟨"TracedBuild$Trace", "isInTheWayOf", "(LTracedBuild$Trace;)Z"⟩, prog_9_method_9_code, 2, (some .boolean), [])
def m_Tr_touched : MethodName × ByteArray × Nat × Option FieldType × List (Nat × Nat × Nat × Nat) := (⟨"TracedBuild$Trace", "touched", "()I"⟩, prog_9_method_10_code, 1, (some .int), [])
def m_Tr_part : MethodName × ByteArray × Nat × Option FieldType × List (Nat × Nat × Nat × Nat) := (⟨"TracedBuild$Trace", "part", "(I)I"⟩, prog_9_method_11_code, 2, (some .int), [])
def m_TB_init : MethodName × ByteArray × Nat × Option FieldType × List (Nat × Nat × Nat × Nat) := (⟨"TracedBuild", "<init>", "()V"⟩, prog_1_method_1_code, 1, none, [])
def m_TB_type : MethodName × ByteArray × Nat × Option FieldType × List (Nat × Nat × Nat × Nat) := (⟨"TracedBuild", "type", "(C)Z"⟩, prog_1_method_2_code, 2, (some .boolean), [])
def m_TB_commands : MethodName × ByteArray × Nat × Option FieldType × List (Nat × Nat × Nat × Nat) := (⟨"TracedBuild", "commands", "()I"⟩, prog_1_method_6_code, 1, (some .int), [])
def m_TB_put : MethodName × ByteArray × Nat × Option FieldType × List (Nat × Nat × Nat × Nat) := (⟨"TracedBuild", "put", "(IS)I"⟩, prog_1_method_7_code, 3, (some .int), [])
def m_TB_isFile : MethodName × ByteArray × Nat × Option FieldType × List (Nat × Nat × Nat × Nat) := (⟨"TracedBuild", "isFile", "(I)Z"⟩, prog_1_method_28_code, 1, (some .boolean), [])
def m_TB_remove : MethodName × ByteArray × Nat × Option FieldType × List (Nat × Nat × Nat × Nat) := (⟨"TracedBuild", "remove", "(I)Z"⟩, prog_1_method_8_code, 2, (some .boolean), [])
def m_TB_did : MethodName × ByteArray × Nat × Option FieldType × List (Nat × Nat × Nat × Nat) := (⟨"TracedBuild", "did", "(I)I"⟩, prog_1_method_10_code, 2, (some .int), [])
def m_TB_isTold : MethodName × ByteArray × Nat × Option FieldType × List (Nat × Nat × Nat × Nat) := (⟨"TracedBuild", "isTold", "(I)Z"⟩, prog_1_method_23_code, 2, (some .boolean), [])
def m_TB_why : MethodName × ByteArray × Nat × Option FieldType × List (Nat × Nat × Nat × Nat) := (⟨"TracedBuild", "why", "(I)I"⟩, prog_1_method_11_code, 2, (some .int), [])
def m_TB_hazard : MethodName × ByteArray × Nat × Option FieldType × List (Nat × Nat × Nat × Nat) := (⟨"TracedBuild", "hazard", "(I)I"⟩, prog_1_method_12_code, 2, (some .int), [])
def m_TB_again : MethodName × ByteArray × Nat × Option FieldType × List (Nat × Nat × Nat × Nat) := (⟨"TracedBuild", "again", "()I"⟩, prog_1_method_13_code, 1, (some .int), [])
def m_TB_traces : MethodName × ByteArray × Nat × Option FieldType × List (Nat × Nat × Nat × Nat) := (⟨"TracedBuild", "traces", "()I"⟩, prog_1_method_14_code, 1, (some .int), [])
def m_TB_tear : MethodName × ByteArray × Nat × Option FieldType × List (Nat × Nat × Nat × Nat) := (⟨"TracedBuild", "tear", "(I)Z"⟩, prog_1_method_16_code, 2, (some .boolean), [])
def m_TB_compact : MethodName × ByteArray × Nat × Option FieldType × List (Nat × Nat × Nat × Nat) := (⟨"TracedBuild", "compact", "()I"⟩, prog_1_method_17_code, 1, (some .int), [])
def m_TB_size : MethodName × ByteArray × Nat × Option FieldType × List (Nat × Nat × Nat × Nat) := (⟨"TracedBuild", "size", "(I)I"⟩, prog_1_method_18_code, 2, (some .int), [])
def m_TB_command : MethodName × ByteArray × Nat × Option FieldType × List (Nat × Nat × Nat × Nat) := (⟨"TracedBuild", "command", "()I"⟩, prog_1_method_3_code, 2, (some .int), [])
def m_TB_refuseNoCommand : MethodName × ByteArray × Nat × Option FieldType × List (Nat × Nat × Nat × Nat) := (⟨"TracedBuild", "refuseNoCommand", "()V"⟩, prog_1_method_20_code, 1, none, [])
def m_TB_scriptChanged : MethodName × ByteArray × Nat × Option FieldType × List (Nat × Nat × Nat × Nat) := (⟨"TracedBuild", "scriptChanged", "()V"⟩, prog_1_method_22_code, 1, none, [])
def m_TB_edit : MethodName × ByteArray × Nat × Option FieldType × List (Nat × Nat × Nat × Nat) := (⟨"TracedBuild", "edit", "(I)V"⟩, prog_1_method_4_code, 2, none, [])
def m_TB_refuseNoPlace : MethodName × ByteArray × Nat × Option FieldType × List (Nat × Nat × Nat × Nat) := (⟨"TracedBuild", "refuseNoPlace", "(I)V"⟩, prog_1_method_21_code, 2, none, [])
def m_TB_drop : MethodName × ByteArray × Nat × Option FieldType × List (Nat × Nat × Nat × Nat) := (⟨"TracedBuild", "drop", "(I)V"⟩, prog_1_method_5_code, 2, none, [])
def m_TB_run : MethodName × ByteArray × Nat × Option FieldType × List (Nat × Nat × Nat × Nat) := (⟨"TracedBuild", "run", "(I)I"⟩, prog_1_method_9_code, 2, (some .int), [])
def m_TB_goThrough : MethodName × ByteArray × Nat × Option FieldType × List (Nat × Nat × Nat × Nat) := (⟨"TracedBuild", "goThrough", "(I)V"⟩, prog_1_method_24_code, 6, none, [])
def m_TB_perform : MethodName × ByteArray × Nat × Option FieldType × List (Nat × Nat × Nat × Nat) := (⟨"TracedBuild", "perform", "(IZ)V"⟩, prog_1_method_27_code, 9, none, [])
def m_TB_firstOf : MethodName × ByteArray × Nat × Option FieldType × List (Nat × Nat × Nat × Nat) := (⟨"TracedBuild", "firstOf", "(I)I"⟩, prog_1_method_29_code, 2, (some .int), [])
def m_TB_firstToGoAhead : MethodName × ByteArray × Nat × Option FieldType × List (Nat × Nat × Nat × Nat) := (⟨"TracedBuild", "firstToGoAhead", "(I)I"⟩, prog_1_method_25_code, 3, (some .int), [])
def m_TB_seemsSafeAhead : MethodName × ByteArray × Nat × Option FieldType × List (Nat × Nat × Nat × Nat) := (⟨"TracedBuild", "seemsSafeAhead", "(II)Z"⟩, prog_1_method_26_code, 6, (some .boolean), [])
def m_TB_trace : MethodName × ByteArray × Nat × Option FieldType × List (Nat × Nat × Nat × Nat) := (⟨"TracedBuild", "trace", "(II)I"⟩, prog_1_method_15_code, 3, (some .int), [])
def m_TB_number : MethodName × ByteArray × Nat × Option FieldType × List (Nat × Nat × Nat × Nat) := (⟨"TracedBuild", "number", "(II)S"⟩, prog_1_method_19_code, 3, (some .short), [])
def m_Mo_init : MethodName × ByteArray × Nat × Option FieldType × List (Nat × Nat × Nat × Nat) := (⟨"TracedBuildModel", "<init>", "()V"⟩, prog_11_method_1_code, 2, none, [])
def m_Mo_thrown : MethodName × ByteArray × Nat × Option FieldType × List (Nat × Nat × Nat × Nat) := (⟨"TracedBuildModel", "thrown", "()I"⟩, prog_11_method_2_code, 1, (some .int), [])
def m_Mo_type : MethodName × ByteArray × Nat × Option FieldType × List (Nat × Nat × Nat × Nat) := (⟨"TracedBuildModel", "type", "(C)Z"⟩, prog_11_method_4_code, 2, (some .boolean), [])
def m_Mo_command : MethodName × ByteArray × Nat × Option FieldType × List (Nat × Nat × Nat × Nat) := (⟨"TracedBuildModel", "command", "()I"⟩, prog_11_method_12_code, 1, (some .int), [])
def m_Mo_isCommand : MethodName × ByteArray × Nat × Option FieldType × List (Nat × Nat × Nat × Nat) := (⟨"TracedBuildModel", "isCommand", "()Z"⟩, prog_11_method_9_code, 2, (some .boolean), [])
def m_Mo_fileAt : MethodName × ByteArray × Nat × Option FieldType × List (Nat × Nat × Nat × Nat) := (⟨"TracedBuildModel", "fileAt", "(I)I"⟩, prog_11_method_6_code, 3, (some .int), [])
def m_Mo_isFile : MethodName × ByteArray × Nat × Option FieldType × List (Nat × Nat × Nat × Nat) := (⟨"TracedBuildModel", "isFile", "(I)Z"⟩, prog_11_method_5_code, 1, (some .boolean), [])
def m_Mo_files : MethodName × ByteArray × Nat × Option FieldType × List (Nat × Nat × Nat × Nat) := (⟨"TracedBuildModel", "files", "(II)Z"⟩, prog_11_method_8_code, 5, (some .boolean), [])
def m_Mo_isDigit : MethodName × ByteArray × Nat × Option FieldType × List (Nat × Nat × Nat × Nat) := (⟨"TracedBuildModel", "isDigit", "(I)Z"⟩, prog_11_method_7_code, 2, (some .boolean), [])
def m_Mo_digitsAndFile : MethodName × ByteArray × Nat × Option FieldType × List (Nat × Nat × Nat × Nat) := (⟨"TracedBuildModel", "digitsAndFile", "(I)Z"⟩, prog_11_method_10_code, 3, (some .boolean), [])
def m_Mo_fail : MethodName × ByteArray × Nat × Option FieldType × List (Nat × Nat × Nat × Nat) := (⟨"TracedBuildModel", "fail", "(I)I"⟩, prog_11_method_3_code, 2, (some .int), [])
def m_Mo_keep : MethodName × ByteArray × Nat × Option FieldType × List (Nat × Nat × Nat × Nat) := (⟨"TracedBuildModel", "keep", "(I)V"⟩, prog_11_method_11_code, 3, none, [])
def m_Mo_edit : MethodName × ByteArray × Nat × Option FieldType × List (Nat × Nat × Nat × Nat) := (⟨"TracedBuildModel", "edit", "(I)V"⟩, prog_11_method_13_code, 2, none, [])
def m_Mo_drop : MethodName × ByteArray × Nat × Option FieldType × List (Nat × Nat × Nat × Nat) := (⟨"TracedBuildModel", "drop", "(I)V"⟩, prog_11_method_14_code, 4, none, [])
def m_Mo_commands : MethodName × ByteArray × Nat × Option FieldType × List (Nat × Nat × Nat × Nat) := (⟨"TracedBuildModel", "commands", "()I"⟩, prog_11_method_15_code, 1, (some .int), [])
def m_Mo_put : MethodName × ByteArray × Nat × Option FieldType × List (Nat × Nat × Nat × Nat) := (⟨"TracedBuildModel", "put", "(IS)I"⟩, prog_11_method_16_code, 3, (some .int), [])
def m_Mo_remove : MethodName × ByteArray × Nat × Option FieldType × List (Nat × Nat × Nat × Nat) := (⟨"TracedBuildModel", "remove", "(I)Z"⟩, prog_11_method_17_code, 2, (some .boolean), [])
def m_Mo_run : MethodName × ByteArray × Nat × Option FieldType × List (Nat × Nat × Nat × Nat) := (⟨"TracedBuildModel", "run", "(I)I"⟩, prog_11_method_48_code, 2, (some .int), [])
def m_Mo_save : MethodName × ByteArray × Nat × Option FieldType × List (Nat × Nat × Nat × Nat) := (⟨"TracedBuildModel", "save", "(Z)V"⟩, prog_11_method_18_code, 3, none, [])
def m_Mo_attempt : MethodName × ByteArray × Nat × Option FieldType × List (Nat × Nat × Nat × Nat) := (⟨"TracedBuildModel", "attempt", "(I)Z"⟩, prog_11_method_46_code, 3, (some .boolean), [])
def m_Mo_perform : MethodName × ByteArray × Nat × Option FieldType × List (Nat × Nat × Nat × Nat) := (⟨"TracedBuildModel", "perform", "(IZ)V"⟩, prog_11_method_39_code, 5, none, [])
def m_Mo_fitting : MethodName × ByteArray × Nat × Option FieldType × List (Nat × Nat × Nat × Nat) := (⟨"TracedBuildModel", "fitting", "(I)I"⟩, prog_11_method_34_code, 3, (some .int), [])
def m_Mo_isOf : MethodName × ByteArray × Nat × Option FieldType × List (Nat × Nat × Nat × Nat) := (⟨"TracedBuildModel", "isOf", "(II)Z"⟩, prog_11_method_30_code, 5, (some .boolean), [])
def m_Mo_changedFor : MethodName × ByteArray × Nat × Option FieldType × List (Nat × Nat × Nat × Nat) := (⟨"TracedBuildModel", "changedFor", "(I)I"⟩, prog_11_method_33_code, 4, (some .int), [])
def m_Mo_isAsRead : MethodName × ByteArray × Nat × Option FieldType × List (Nat × Nat × Nat × Nat) := (⟨"TracedBuildModel", "isAsRead", "(II)Z"⟩, prog_11_method_32_code, 5, (some .boolean), [])
def m_Mo_isWritten : MethodName × ByteArray × Nat × Option FieldType × List (Nat × Nat × Nat × Nat) := (⟨"TracedBuildModel", "isWritten", "(I)Z"⟩, prog_11_method_37_code, 5, (some .boolean), [])
def m_Mo_latestOf : MethodName × ByteArray × Nat × Option FieldType × List (Nat × Nat × Nat × Nat) := (⟨"TracedBuildModel", "latestOf", "(I)I"⟩, prog_11_method_31_code, 3, (some .int), [])
def m_Mo_work : MethodName × ByteArray × Nat × Option FieldType × List (Nat × Nat × Nat × Nat) := (⟨"TracedBuildModel", "work", "(I)V"⟩, prog_11_method_26_code, 5, none, [])
def m_Mo_letter : MethodName × ByteArray × Nat × Option FieldType × List (Nat × Nat × Nat × Nat) := (⟨"TracedBuildModel", "letter", "(II)I"⟩, prog_11_method_19_code, 3, (some .int), [])
def m_Mo_readFile : MethodName × ByteArray × Nat × Option FieldType × List (Nat × Nat × Nat × Nat) := (⟨"TracedBuildModel", "readFile", "(I)V"⟩, prog_11_method_21_code, 2, none, [])
def m_Mo_addAll : MethodName × ByteArray × Nat × Option FieldType × List (Nat × Nat × Nat × Nat) := (⟨"TracedBuildModel", "addAll", "(II)V"⟩, prog_11_method_22_code, 4, none, [])
def m_Mo_add : MethodName × ByteArray × Nat × Option FieldType × List (Nat × Nat × Nat × Nat) := (⟨"TracedBuildModel", "add", "(I)V"⟩, prog_11_method_20_code, 2, none, [])
def m_Mo_join : MethodName × ByteArray × Nat × Option FieldType × List (Nat × Nat × Nat × Nat) := (⟨"TracedBuildModel", "join", "(II)V"⟩, prog_11_method_27_code, 3, none, [])
def m_Mo_sums : MethodName × ByteArray × Nat × Option FieldType × List (Nat × Nat × Nat × Nat) := (⟨"TracedBuildModel", "sums", "(II)V"⟩, prog_11_method_24_code, 4, none, [])
def m_Mo_sort : MethodName × ByteArray × Nat × Option FieldType × List (Nat × Nat × Nat × Nat) := (⟨"TracedBuildModel", "sort", "()V"⟩, prog_11_method_23_code, 4, none, [])
def m_Mo_digits : MethodName × ByteArray × Nat × Option FieldType × List (Nat × Nat × Nat × Nat) := (⟨"TracedBuildModel", "digits", "(II)V"⟩, prog_11_method_29_code, 4, none, [])
def m_Mo_ask : MethodName × ByteArray × Nat × Option FieldType × List (Nat × Nat × Nat × Nat) := (⟨"TracedBuildModel", "ask", "(I)V"⟩, prog_11_method_28_code, 2, none, [])
def m_Mo_there : MethodName × ByteArray × Nat × Option FieldType × List (Nat × Nat × Nat × Nat) := (⟨"TracedBuildModel", "there", "(I)V"⟩, prog_11_method_25_code, 3, none, [])
def m_Mo_record : MethodName × ByteArray × Nat × Option FieldType × List (Nat × Nat × Nat × Nat) := (⟨"TracedBuildModel", "record", "(I)V"⟩, prog_11_method_36_code, 4, none, [])
def m_Mo_copyTrace : MethodName × ByteArray × Nat × Option FieldType × List (Nat × Nat × Nat × Nat) := (⟨"TracedBuildModel", "copyTrace", "(II)V"⟩, prog_11_method_35_code, 4, none, [])
def m_Mo_write : MethodName × ByteArray × Nat × Option FieldType × List (Nat × Nat × Nat × Nat) := (⟨"TracedBuildModel", "write", "(I)V"⟩, prog_11_method_38_code, 4, none, [])
def m_Mo_isHazard : MethodName × ByteArray × Nat × Option FieldType × List (Nat × Nat × Nat × Nat) := (⟨"TracedBuildModel", "isHazard", "(I)Z"⟩, prog_11_method_42_code, 2, (some .boolean), [])
def m_Mo_isHazardOf : MethodName × ByteArray × Nat × Option FieldType × List (Nat × Nat × Nat × Nat) := (⟨"TracedBuildModel", "isHazardOf", "(IZ)Z"⟩, prog_11_method_43_code, 5, (some .boolean), [])
def m_Mo_kindOf : MethodName × ByteArray × Nat × Option FieldType × List (Nat × Nat × Nat × Nat) := (⟨"TracedBuildModel", "kindOf", "(II)I"⟩, prog_11_method_41_code, 3, (some .int), [])
def m_Mo_meets : MethodName × ByteArray × Nat × Option FieldType × List (Nat × Nat × Nat × Nat) := (⟨"TracedBuildModel", "meets", "(II)Z"⟩, prog_11_method_40_code, 3, (some .boolean), [])
def m_Mo_tryAhead : MethodName × ByteArray × Nat × Option FieldType × List (Nat × Nat × Nat × Nat) := (⟨"TracedBuildModel", "tryAhead", "(II)Z"⟩, prog_11_method_47_code, 5, (some .boolean), [])
def m_Mo_isSafe : MethodName × ByteArray × Nat × Option FieldType × List (Nat × Nat × Nat × Nat) := (⟨"TracedBuildModel", "isSafe", "(II)Z"⟩, prog_11_method_45_code, 6, (some .boolean), [])
def m_Mo_apart : MethodName × ByteArray × Nat × Option FieldType × List (Nat × Nat × Nat × Nat) := (⟨"TracedBuildModel", "apart", "(II)Z"⟩, prog_11_method_44_code, 5, (some .boolean), [])
def m_Mo_did : MethodName × ByteArray × Nat × Option FieldType × List (Nat × Nat × Nat × Nat) := (⟨"TracedBuildModel", "did", "(I)I"⟩, prog_11_method_50_code, 2, (some .int), [])
def m_Mo_wasRun : MethodName × ByteArray × Nat × Option FieldType × List (Nat × Nat × Nat × Nat) := (⟨"TracedBuildModel", "wasRun", "(I)Z"⟩, prog_11_method_49_code, 2, (some .boolean), [])
def m_Mo_why : MethodName × ByteArray × Nat × Option FieldType × List (Nat × Nat × Nat × Nat) := (⟨"TracedBuildModel", "why", "(I)I"⟩, prog_11_method_51_code, 2, (some .int), [])
def m_Mo_hazard : MethodName × ByteArray × Nat × Option FieldType × List (Nat × Nat × Nat × Nat) := (⟨"TracedBuildModel", "hazard", "(I)I"⟩, prog_11_method_52_code, 2, (some .int), [])
def m_Mo_again : MethodName × ByteArray × Nat × Option FieldType × List (Nat × Nat × Nat × Nat) := (⟨"TracedBuildModel", "again", "()I"⟩, prog_11_method_53_code, 1, (some .int), [])
def m_Mo_traces : MethodName × ByteArray × Nat × Option FieldType × List (Nat × Nat × Nat × Nat) := (⟨"TracedBuildModel", "traces", "()I"⟩, prog_11_method_54_code, 1, (some .int), [])
def m_Mo_trace : MethodName × ByteArray × Nat × Option FieldType × List (Nat × Nat × Nat × Nat) := (⟨"TracedBuildModel", "trace", "(II)I"⟩, prog_11_method_55_code, 3, (some .int), [])
def m_Mo_tear : MethodName × ByteArray × Nat × Option FieldType × List (Nat × Nat × Nat × Nat) := (⟨"TracedBuildModel", "tear", "(I)Z"⟩, prog_11_method_56_code, 2, (some .boolean), [])
def m_Mo_compact : MethodName × ByteArray × Nat × Option FieldType × List (Nat × Nat × Nat × Nat) := (⟨"TracedBuildModel", "compact", "()I"⟩, prog_11_method_58_code, 6, (some .int), [])
def m_Mo_sameText : MethodName × ByteArray × Nat × Option FieldType × List (Nat × Nat × Nat × Nat) := (⟨"TracedBuildModel", "sameText", "(II)Z"⟩, prog_11_method_57_code, 5, (some .boolean), [])
def m_Mo_size : MethodName × ByteArray × Nat × Option FieldType × List (Nat × Nat × Nat × Nat) := (⟨"TracedBuildModel", "size", "(I)I"⟩, prog_11_method_59_code, 2, (some .int), [])
def m_Mo_number : MethodName × ByteArray × Nat × Option FieldType × List (Nat × Nat × Nat × Nat) := (⟨"TracedBuildModel", "number", "(II)S"⟩, prog_11_method_60_code, 3, (some .short), [])
def m_Cr_work : MethodName × ByteArray × Nat × Option FieldType × List (Nat × Nat × Nat × Nat) := (⟨"TracedBuild$Craft", "work", "(LTracedBuild$Trace;LTracedBuild$Text;LTracedBuild$Shelf;)V"⟩, prog_2_method_2_code, 5, none, [])
def m_Cr_read : MethodName × ByteArray × Nat × Option FieldType × List (Nat × Nat × Nat × Nat) := (⟨"TracedBuild$Craft", "read", "(LTracedBuild$Trace;I)I"⟩, prog_2_method_4_code, 3, (some .int), [])
def m_Cr_workPlain : MethodName × ByteArray × Nat × Option FieldType × List (Nat × Nat × Nat × Nat) := (⟨"TracedBuild$Craft", "workPlain", "(LTracedBuild$Trace;I)V"⟩, prog_2_method_3_code, 3, none, [])
def m_Cr_copy : MethodName × ByteArray × Nat × Option FieldType × List (Nat × Nat × Nat × Nat) := (⟨"TracedBuild$Craft", "copy", "(LTracedBuild$Trace;I)V"⟩, prog_2_method_5_code, 3, none, [])
def m_Cr_sum : MethodName × ByteArray × Nat × Option FieldType × List (Nat × Nat × Nat × Nat) := (⟨"TracedBuild$Craft", "sum", "(LTracedBuild$Trace;II)V"⟩, prog_2_method_6_code, 5, none, [])
def m_Cr_copyDivided : MethodName × ByteArray × Nat × Option FieldType × List (Nat × Nat × Nat × Nat) := (⟨"TracedBuild$Craft", "copyDivided", "(LTracedBuild$Trace;II)V"⟩, prog_2_method_7_code, 5, none, [])
def m_Cr_copyDigits : MethodName × ByteArray × Nat × Option FieldType × List (Nat × Nat × Nat × Nat) := (⟨"TracedBuild$Craft", "copyDigits", "(LTracedBuild$Trace;I)V"⟩, prog_2_method_8_code, 3, none, [])
def m_Cr_tellIfThere : MethodName × ByteArray × Nat × Option FieldType × List (Nat × Nat × Nat × Nat) := (⟨"TracedBuild$Craft", "tellIfThere", "(LTracedBuild$Trace;I)V"⟩, prog_2_method_9_code, 2, none, [])
def m_Cr_listFiles : MethodName × ByteArray × Nat × Option FieldType × List (Nat × Nat × Nat × Nat) := (⟨"TracedBuild$Craft", "listFiles", "(LTracedBuild$Trace;)V"⟩, prog_2_method_10_code, 2, none, [])
def m_La_command : MethodName × ByteArray × Nat × Option FieldType × List (Nat × Nat × Nat × Nat) := (⟨"TracedBuildLaw", "command", "(LTracedBuild;[J)I"⟩, method_3_code, 3, (some .int), [(0, 8, 11, 13), (0, 8, 14, 15)])
def m_La_edit : MethodName × ByteArray × Nat × Option FieldType × List (Nat × Nat × Nat × Nat) := (⟨"TracedBuildLaw", "edit", "(LTracedBuild;I)I"⟩, method_4_code, 3, (some .int), [(0, 5, 8, 21), (0, 5, 11, 13)])
def m_La_drop : MethodName × ByteArray × Nat × Option FieldType × List (Nat × Nat × Nat × Nat) := (⟨"TracedBuildLaw", "drop", "(LTracedBuild;I)I"⟩, method_5_code, 3, (some .int), [(0, 5, 8, 21)])
def m_La_run : MethodName × ByteArray × Nat × Option FieldType × List (Nat × Nat × Nat × Nat) := (⟨"TracedBuildLaw", "run", "(LTracedBuild;I[J)I"⟩, method_6_code, 4, (some .int), [(0, 9, 12, 13), (0, 9, 15, 15)])
def m_La_trace : MethodName × ByteArray × Nat × Option FieldType × List (Nat × Nat × Nat × Nat) := (⟨"TracedBuildLaw", "trace", "(LTracedBuild;II[J)I"⟩, method_7_code, 5, (some .int), [(0, 10, 13, 21)])
def m_La_number : MethodName × ByteArray × Nat × Option FieldType × List (Nat × Nat × Nat × Nat) := (⟨"TracedBuildLaw", "number", "(LTracedBuild;II[J)I"⟩, method_8_code, 5, (some .int), [(0, 10, 13, 21)])
end
section
/-! The walk's own words: values, memory, the heap that holds a memory, contracts that may throw. -/
/-- a value: an int, a reference (0: null; r + 1: the r-th cell that was made), a long -/
abbrev tb_V : Type := Int32 ⊕ Nat ⊕ Int64
/-- a local: an int, a reference, or nothing that is known -/
abbrev tb_L : Type := Option (Int32 ⊕ Nat)
/-- an end: a value or none; or the number of an exception's class -/
abbrev tb_O : Type := Option tb_V ⊕ Nat
/-- launch, the law's start, its arguments, the classes' numbers and slots, the array classes -/
abbrev tb_E : Type := Launch × State × Array Value × va_G × (Nat → ClassId)
/-- a method: name, bytes, locals, answer's type, handlers -/
abbrev tb_MD : Type := MethodName × ByteArray × Nat × Option FieldType × List (Nat × Nat × Nat × Nat)
/-- a memory: how many cells, whether the heap has no more than these, kinds, lengths, ints, references, longs -/
abbrev tb_M : Type := Nat × Bool × (Nat → Nat) × (Nat → Nat) × (Nat → Nat → Int32) × (Nat → Nat → Nat) × (Nat → Nat → Int64)
def tb_n (M : tb_M) : Nat := M.1
def tb_u (M : tb_M) : Bool := M.2.1
def tb_K (M : tb_M) : Nat → Nat := M.2.2.1
def tb_Ln (M : tb_M) : Nat → Nat := M.2.2.2.1
def tb_I (M : tb_M) : Nat → Nat → Int32 := M.2.2.2.2.1
def tb_R (M : tb_M) : Nat → Nat → Nat := M.2.2.2.2.2.1
def tb_J (M : tb_M) : Nat → Nat → Int64 := M.2.2.2.2.2.2
def tb_sI (M : tb_M) (o k : Nat) (x : Int32) : tb_M := (tb_n M, tb_u M, tb_K M, tb_Ln M, va_up (tb_I M) o (va_up (tb_I M o) k x), tb_R M, tb_J M)
def tb_sR (M : tb_M) (o k : Nat) (r : Nat) : tb_M := (tb_n M, tb_u M, tb_K M, tb_Ln M, tb_I M, va_up (tb_R M) o (va_up (tb_R M o) k r), tb_J M)
def tb_sJ (M : tb_M) (o k : Nat) (x : Int64) : tb_M := (tb_n M, tb_u M, tb_K M, tb_Ln M, tb_I M, tb_R M, va_up (tb_J M) o (va_up (tb_J M o) k x))
/-- one more cell, all zero -/
def tb_new (M : tb_M) (kind len : Nat) : tb_M := (tb_n M + 1, tb_u M, va_up (tb_K M) (tb_n M + 1) kind, va_up (tb_Ln M) (tb_n M + 1) len, va_up (tb_I M) (tb_n M + 1) (fun _ => 0), va_up (tb_R M) (tb_n M + 1) (fun _ => 0), va_up (tb_J M) (tb_n M + 1) (fun _ => 0))
/-- behind a throw: cells that the memory does not name -/
def tb_un (M : tb_M) : tb_M := (tb_n M, false, tb_K M, tb_Ln M, tb_I M, tb_R M, tb_J M)
/-- where the r-th cell lies -/
def tb_ro (E : tb_E) (r : Nat) : Option Nat := match r with
  | 0 => none
  | r + 1 => some (E.2.1.heap.size + r)
def tv (E : tb_E) (v : tb_V) : Value := match v with
  | .inl x => .int x
  | .inr (.inl r) => va_rf (tb_ro E r)
  | .inr (.inr x) => .long x
def tb_lt (E : tb_E) (v : Int32 ⊕ Nat) : Value := match v with
  | .inl x => .int x
  | .inr r => va_rf (tb_ro E r)
def tb_lv (E : tb_E) : Nat → List tb_L → List (Nat × Value)
  | _, [] => []
  | i, none :: t => tb_lv E (i + 1) t
  | i, some v :: t => (i, tb_lt E v) :: tb_lv E (i + 1) t
theorem tb_lv_mem (E : tb_E) : ∀ (L : List tb_L) (j i : Nat) (w : Value), (i, w) ∈ tb_lv E j L ↔ ∃ n v, L[n]? = some (some v) ∧ i = j + n ∧ w = tb_lt E v := by
  intro L
  induction L with
  | nil => intro j i w; simp [tb_lv]
  | cons a t ih =>
    intro j i w
    cases a with
    | none =>
      simp only [tb_lv]
      rw [ih]
      constructor
      · rintro ⟨n, v, h1, h2, h3⟩
        exact ⟨n + 1, v, by simpa using h1, by omega, h3⟩
      · rintro ⟨n, v, h1, h2, h3⟩
        cases n with
        | zero => simp at h1
        | succ n => exact ⟨n, v, by simpa using h1, by omega, h3⟩
    | some x =>
      simp only [tb_lv, List.mem_cons]
      rw [ih]
      constructor
      · rintro (h | ⟨n, v, h1, h2, h3⟩)
        · cases h
          exact ⟨0, x, by simp, by omega, rfl⟩
        · exact ⟨n + 1, v, by simpa using h1, by omega, h3⟩
      · rintro ⟨n, v, h1, h2, h3⟩
        cases n with
        | zero =>
          simp at h1
          subst h1
          left
          rw [h2, h3]; rfl
        | succ n => exact Or.inr ⟨n, v, by simpa using h1, by omega, h3⟩
theorem tb_lt_cat (E : tb_E) (v : Int32 ⊕ Nat) : (tb_lt E v).category = 1 := by
  cases v with
  | inl x => rfl
  | inr r => cases r <;> rfl
theorem tb_at {E : tb_E} {ls : Array Slot} {nL : Nat} {L : List tb_L} (h : lv_has ls nL (tb_lv E 0 L)) {i : Nat} {v : Int32 ⊕ Nat} (hi : L[i]? = some (some v)) : ls[i]? = some (.val (tb_lt E v)) :=
  h.2.2 (i, tb_lt E v) ((tb_lv_mem E L 0 i _).mpr ⟨i, v, hi, by omega, rfl⟩)
/-- a store: the list with the new value -/
theorem tb_stored {E : tb_E} {ls : Array Slot} {nL : Nat} {L : List tb_L} {i : Nat} {v : Int32 ⊕ Nat} (h : lv_has ls nL ((i, tb_lt E v) :: (tb_lv E 0 L).filter (fun q => !(q.1 == i) && !(q.1 + 1 == i && q.2.category == 2)))) : lv_has ls nL (tb_lv E 0 (L.set i (some v))) := by
  refine ⟨h.1, h.2.1, fun q hq => ?_⟩
  obtain ⟨n, w, h1, h2, h3⟩ := (tb_lv_mem E _ 0 q.1 q.2).mp hq
  have hq' : q.1 = n := by omega
  apply h.2.2
  by_cases e : n = i
  · subst e
    rw [List.getElem?_set] at h1
    simp at h1
    obtain ⟨-, h1⟩ := h1
    subst h1
    exact List.mem_cons.mpr (Or.inl (Prod.ext hq' h3))
  · rw [List.getElem?_set, if_neg (fun z => e z.symm)] at h1
    refine List.mem_cons.mpr (Or.inr (List.mem_filter.mpr ⟨(tb_lv_mem E L 0 q.1 q.2).mpr ⟨n, w, h1, h2, h3⟩, ?_⟩))
    have hc : (q.2.category == 2) = false := by rw [h3, tb_lt_cat]; rfl
    simp [hq', e, hc]
/-- the field kinds of the classes: true is a reference -/
def tb_fs (E : tb_E) (I : Nat → Int32) (R : Nat → Nat) : Nat → List Bool → List Value
  | _, [] => []
  | j, true :: t => va_rf (tb_ro E (R j)) :: tb_fs E I R (j + 1) t
  | j, false :: t => .int (I j) :: tb_fs E I R (j + 1) t
theorem tb_fs_get (E : tb_E) (I : Nat → Int32) (R : Nat → Nat) : ∀ (l : List Bool) (j k : Nat), (tb_fs E I R j l)[k]? = l[k]?.map (fun q => if q = true then va_rf (tb_ro E (R (j + k))) else .int (I (j + k))) := by
  intro l
  induction l with
  | nil => intro j k; simp [tb_fs]
  | cons a t ih =>
    intro j k
    cases a <;> cases k with
    | zero => simp [tb_fs]
    | succ k => simp only [tb_fs, List.getElem?_cons_succ]; rw [ih]; simp only [Nat.add_assoc, Nat.add_comm 1 k]
theorem tb_fs_len (E : tb_E) (I : Nat → Int32) (R : Nat → Nat) : ∀ (l : List Bool) (j : Nat), (tb_fs E I R j l).length = l.length := by
  intro l
  induction l with
  | nil => intro j; rfl
  | cons a t ih => intro j; cases a <;> simp [tb_fs, ih]
theorem tb_fs_setI (E : tb_E) (I : Nat → Int32) (R : Nat → Nat) (l : List Bool) (k : Nat) (x : Int32) (h : l[k]? = some false) : (tb_fs E I R 0 l).set k (.int x) = tb_fs E (va_up I k x) R 0 l := by
  apply List.ext_getElem?
  intro i
  rw [List.getElem?_set, tb_fs_get, tb_fs_get, tb_fs_len]
  have hk : k < l.length := (List.getElem?_eq_some_iff.mp h).1
  by_cases e : k = i
  · subst e
    rw [if_pos rfl, if_pos hk, h]
    simp [va_up]
  · have e' : ¬ i = k := fun z => e z.symm
    simp [e, va_up, e']
theorem tb_fs_setR (E : tb_E) (I : Nat → Int32) (R : Nat → Nat) (l : List Bool) (k : Nat) (r : Nat) (h : l[k]? = some true) : (tb_fs E I R 0 l).set k (va_rf (tb_ro E r)) = tb_fs E I (va_up R k r) 0 l := by
  apply List.ext_getElem?
  intro i
  rw [List.getElem?_set, tb_fs_get, tb_fs_get, tb_fs_len]
  have hk : k < l.length := (List.getElem?_eq_some_iff.mp h).1
  by_cases e : k = i
  · subst e
    rw [if_pos rfl, if_pos hk, h]
    simp [va_up]
  · have e' : ¬ i = k := fun z => e z.symm
    simp [e, va_up, e']
/-- what a cell of this kind, length and contents is -/
def tb_en (E : tb_E) (ft : List (List Bool)) (kind len : Nat) (I : Nat → Int32) (R : Nat → Nat) (J : Nat → Int64) : va_E :=
  if kind < 100 then .inr (kind - 1, tb_fs E I R 0 ((ft[kind - 1]?).getD []))
  else if kind < 104 then .inl (E.2.2.2.2 (kind - 100), len, .inl I)
  else if kind = 104 then .inl (E.2.2.2.2 4, len, .inr (.inl J))
  else .inl (E.2.2.2.2 (kind - 100), len, .inr (.inr (.inr (.inr (fun j => tb_ro E (R j))))))
def tb_ent (E : tb_E) (M : tb_M) (o : Nat) : va_E := tb_en E tb_ft (tb_K M o) (tb_Ln M o) (tb_I M o) (tb_R M o) (tb_J M o)
/-- the world of a memory: the r-th cell stands at place r, at the address r behind the start -/
def tb_ws (E : tb_E) (M : tb_M) : va_W := (List.range (tb_n M)).map (fun r => (E.2.1.heap.size + r, tb_ent E M (r + 1)))
theorem tb_ws_get {E : tb_E} {M : tb_M} {r : Nat} (h : r < tb_n M) : (tb_ws E M)[r]? = some (E.2.1.heap.size + r, tb_ent E M (r + 1)) := by
  simp [tb_ws, h]
theorem tb_ws_inv {E : tb_E} {M : tb_M} {r : Nat} {q : Nat × va_E} (h : (tb_ws E M)[r]? = some q) : r < tb_n M ∧ q = (E.2.1.heap.size + r, tb_ent E M (r + 1)) := by
  have hr : r < tb_n M := by
    have := (List.getElem?_eq_some_iff.mp h).1
    simpa [tb_ws] using this
  rw [tb_ws_get hr] at h
  exact ⟨hr, (Option.some.inj h).symm⟩
theorem tb_ws_set {E : tb_E} {M M' : tb_M} {r : Nat} {x : va_E} (hn : tb_n M' = tb_n M) (hx : tb_ent E M' (r + 1) = x) (ho : ∀ o, o ≠ r + 1 → tb_ent E M' o = tb_ent E M o) (h : r < tb_n M) : (tb_ws E M).set r (E.2.1.heap.size + r, x) = tb_ws E M' := by
  apply List.ext_getElem?
  intro i
  by_cases hi : i < tb_n M
  · rw [List.getElem?_set, tb_ws_get (M := M') (by rw [hn]; exact hi)]
    by_cases e : r = i
    · subst e
      rw [if_pos rfl, if_pos (by simpa [tb_ws] using hi), hx]
    · rw [if_neg e, tb_ws_get hi, ho (i + 1) (by omega)]
  · have e1 : (tb_ws E M').length = tb_n M := by simp [tb_ws, hn]
    have e2 : ((tb_ws E M).set r (E.2.1.heap.size + r, x)).length = tb_n M := by simp [tb_ws]
    rw [List.getElem?_eq_none (by omega), List.getElem?_eq_none (by omega)]
/-- what may be written: what was made since the start -/
def tb_A (E : tb_E) : Nat → Prop := fun q => E.2.1.heap.size ≤ q
theorem tb_ws_D (E : tb_E) (M : tb_M) : va_D (tb_A E) (tb_ws E M) := by
  refine ⟨fun i j p q hp hq hpq => ?_, fun k q hq => ?_⟩
  · obtain ⟨-, e1⟩ := tb_ws_inv hp
    obtain ⟨-, e2⟩ := tb_ws_inv hq
    rw [e1, e2] at hpq
    simp at hpq
    exact hpq
  · obtain ⟨-, e1⟩ := tb_ws_inv hq
    rw [e1]
    show E.2.1.heap.size ≤ E.2.1.heap.size + k
    omega
/-- the heap holds the memory -/
def tb_HR (E : tb_E) (M : tb_M) (H : Heap) : Prop :=
  va_P E.2.2.2.1 tb_cl (tb_ws E M) H ∧ (∀ q : Nat, q < E.2.1.heap.size → H[q]? = E.2.1.heap[q]?) ∧ tb_K M 0 = 0 ∧ (∀ o, tb_n M < o → tb_K M o = 0) ∧ E.2.1.heap.size ≤ H.size ∧ (tb_u M = true → H.size = E.2.1.heap.size + tb_n M)
/-- the array classes: int, short, char, boolean, long, then those of references -/
def tb_tys (E : tb_E) : List (ClassId × FieldType) := tb_ty.zipIdx.map (fun q => (E.2.2.2.2 q.2, q.1))
theorem tb_cell {E : tb_E} {M : tb_M} {H : Heap} (h : tb_HR E M H) {o : Nat} (hk : tb_K M o ≠ 0) : ∃ r, o = r + 1 ∧ r < tb_n M ∧ (tb_ws E M)[r]? = some (E.2.1.heap.size + r, tb_ent E M o) := by
  cases o with
  | zero => exact absurd h.2.2.1 hk
  | succ r =>
    have hr : r < tb_n M := by
      apply Nat.lt_of_not_le
      intro z
      exact hk (h.2.2.2.1 (r + 1) (by omega))
    exact ⟨r, rfl, hr, tb_ws_get hr⟩
/-- what the exceptions are called -/
def tb_xn (x : Nat) : String := match x with
  | 1 => "java/lang/IllegalArgumentException"
  | 2 => "java/lang/IllegalStateException"
  | _ => "java/lang/IndexOutOfBoundsException"
def tb_exc (x a : Nat) (t : State) : Prop := ∃ cell : Cell, t.heap[a]? = some cell ∧ (∀ q, cell.vm ≠ .statics q) ∧ t.vm.findClass (tb_xn x) = some cell.cls
def tb_oc (E : tb_E) (o : tb_O) (oc : Outcome) (t : State) : Prop := match o with
  | .inl none => oc = .returned none
  | .inl (some v) => oc = .returned (some (tv E v))
  | .inr x => ∃ a, oc = .threw a ∧ tb_exc x a t
def tb_Qc (E : tb_E) (Q : tb_O → tb_M → Prop) : State → Outcome → State → Prop := fun st oc t => (∃ (o : tb_O) (M : tb_M), Q o M ∧ tb_oc E o oc t ∧ tb_HR E M t.heap) ∧ va_F (tb_A E) st t
/-- a method's end: what it wrote lies where it may -/
def tb_FE (st t : State) (L : List Loc) (k n : Nat) : Prop := st.WarmedH t.vm ∧ st.sameButNew ({ t with vm := st.vm } : State) L k n
def tb_MQ (below : List Frame) (Qc : State → Outcome → State → Prop) (s : State) (mc ms : Nat) (free : Addr → Prop) : State → Prop := fun t =>
  ∃ o, t.status = .running ∧ Ended t below o ∧ Qc s o t ∧ ∃ L, tb_FE s t L mc ms ∧ ∀ q ∈ L, free q.base
def tb_Ok0 (l : Launch) (y : MethodName) (ws : List Cond) (rm : Room) (Pc : Array Value → State → Prop) (Qc : State → Outcome → State → Prop) (mc ms : Nat) (free : Addr → Prop) : Prop :=
  MetFree l y (headSpec ws rm) Pc (fun _ _ _ _ _ => True) (fun _ st o t => Qc st o t ∧ ∃ L, tb_FE st t L mc ms ∧ ∀ q ∈ L, free q.base)
theorem tb_W_mono {p : Program} {l : Launch} {e : Env} {R : Room} {s : State} {m : MethodId} {args : Array Value} {below : List Frame} {meth : Method} {c : Code} {H : Heap} {locs : List Loc} {cells slots : Nat} {Q Q' : State → Prop} {g : JFrame}
    (h : ∀ t, Q t → Q' t) (k : W p l e R s m args below meth c H locs cells slots Q g) : W p l e R s m args below meth c H locs cells slots Q' g := by
  intro T hT X
  obtain ⟨t, a, b⟩ := k T hT X
  exact ⟨t, a, h t b⟩
theorem tb_MQ_of {below : List Frame} {Qc : State → Outcome → State → Prop} {a : Array Value} {s : State} {mc ms : Nat} {free : Addr → Prop} {t : State} (h : MQ below (fun _ => Qc) a s mc ms free t) : tb_MQ below Qc s mc ms free t := by
  obtain ⟨o, h1, h2, h3, L, h4, h5⟩ := h
  exact ⟨o, h1, h2, h3, L, ⟨h4.2.1, h4.2.2⟩, h5⟩
/-- a room that is enough: d frames, mc cells, ms slots -/
def tb_Rm (R : Room) (d mc ms : Nat) : Prop := d ≤ R.frames ∧ 40 * d ≤ R.locals ∧ mc ≤ R.cells ∧ ms ≤ R.slots
def tb_rm (d mc ms : Nat) : Room := { frames := d, cells := mc, slots := ms, locals := 40 * d }
/-- the head word of a method -/
def tb_hw (k : tb_MD) : Cond := match k.2.2.2.2 with
  | [] => .code k.1 k.2.1 k.2.2.1 k.2.2.2.1
  | hs => .codeWith k.1 k.2.1 k.2.2.1 k.2.2.2.1 hs
/-- the two statics of Throwable of which the statement says that they are references -/
def tb_stw : List Cond := [.isRef (.static "java/lang/Throwable" "UNASSIGNED_STACK" "[Ljava/lang/StackTraceElement;"), .isRef (.static "java/lang/Throwable" "SUPPRESSED_SENTINEL" "Ljava/util/List;")]
/-- which exceptions are not which -/
def tb_nc : List (String × String) := [("java/lang/IllegalStateException", "java/lang/IllegalArgumentException"), ("java/lang/IllegalArgumentException", "java/lang/IndexOutOfBoundsException")]
/-- a word of the tables that stays -/
def tb_I1 (w : Cond) : Prop := w ∈ lw_tbl ∧ goodWord w = true
/-- what holds at the law's start: the tables' words, the classes' numbers and slots, the nest's words -/
def tb_G (E : tb_E) : Prop := (∀ w ∈ lw_tbl, w.before E.2.2.1 E.2.1 = true) ∧ va_K E.2.2.2.1 tb_cl (tb_tys E) E.2.1 ∧ (∀ w ∈ tb_nest, va_Nw w E.2.1) ∧ E.1.stackTraces = false ∧ (∀ w ∈ tb_stw, w.before E.2.2.1 E.2.1 = true) ∧ ∀ q ∈ tb_nc, va_Nc q.1 q.2 E.2.1
def tb_Cx (E : tb_E) (k : tb_MD) (p : Program) (e : Env) (s : State) (m : MethodId) (meth : Method) (c : Code) : Prop :=
  p.tables.exec = Jvm.exec ∧ c.code = k.2.1 ∧ c.maxLocals = k.2.2.1 ∧ s.vm.findClass k.1.cls = some m.cls ∧ meth.sig.returnType = k.2.2.2.1 ∧ meth.locks = false ∧ meth.name = k.1.name ∧ E.2.1.WarmedH s.vm ∧
    c.exceptionTable.toList.map (fun h => (h.startPc, h.endPc, h.handlerPc, h.catchType)) = k.2.2.2.2 ∧ s.vm.method? m = some meth ∧ meth.code = some c ∧ E.1.admits e ∧ tb_G E
/-- THE WALK: method k, d frames free, rc cells of rs slots left to make, at pc with locals L, stack S, memory M: it ends, and Q says how -/
def tb_Wp (E : tb_E) (k : tb_MD) (d rc rs pc : Nat) (L : List tb_L) (S : List tb_V) (M : tb_M) (Q : tb_O → tb_M → Prop) : Prop :=
  ∀ (p : Program) (e : Env) (R : Room) (s : State) (m : MethodId) (args : Array Value) (below : List Frame) (meth : Method) (c : Code) (H : Heap) (locs : List Loc) (cells slots mc ms : Nat) (ls : Array Slot),
    tb_Cx E k p e s m meth c → lv_has ls k.2.2.1 (tb_lv E 0 L) → tb_HR E M H → va_S (tb_A E) s.heap H locs → cells + rc ≤ mc → slots + rs ≤ ms → tb_Rm R d mc ms →
    W p E.1 e R s m args below meth c H locs cells slots (tb_MQ below (tb_Qc E Q) s mc ms (tb_A E)) (F0 m pc ls (S.map (tv E)))
def tb_Pc (E : tb_E) (A : List tb_V) (M : tb_M) : Array Value → State → Prop := fun a U => a = (A.map (tv E)).toArray ∧ E.2.1.WarmedH U.vm ∧ tb_HR E M U.heap
/-- THE CONTRACT: method k, called with A at memory M -/
def tb_Ok (E : tb_E) (k : tb_MD) (d mc ms : Nat) (A : List tb_V) (M : tb_M) (Q : tb_O → tb_M → Prop) : Prop :=
  tb_Ok0 E.1 k.1 [tb_hw k] (tb_rm d mc ms) (tb_Pc E A M) (tb_Qc E Q) mc ms (tb_A E)
end
section
/-! A call that may throw. -/
theorem tb_Ok0.ofW {l : Launch} {y : MethodName} {ws : List Cond} {rm : Room} {Pc : Array Value → State → Prop} {Qc : State → Outcome → State → Prop} {mc ms : Nat} {free : Addr → Prop} {cc : ByteArray} {maxL : Nat} {ret : Option FieldType}
    (hy : plainName y.cls = true)
    (his : ∀ args (s : State) m, (headSpec ws rm).pre.before args s = true → s.methodNamed? y = some m → ∃ meth c, s.vm.method? m = some meth ∧ meth.code = some c ∧ c.code = cc ∧ c.maxLocals = maxL ∧ meth.sig.returnType = ret ∧ meth.locks = false)
    (body : ∀ p e s m args below meth c s₁, BodyLoose p l y (headSpec ws rm) cc maxL ret e s m args below meth c s₁ → c.maxLocals = maxL → Pc args s →
      W p l e (headSpec ws rm).room s m args below meth c s.heap [] 0 0 (tb_MQ below Qc s mc ms free) (entryFrame m args maxL)) : tb_Ok0 l y ws rm Pc Qc mc ms free := by
  refine MetFree.of_bodyS (code := cc) (maxLocals := maxL) (ret := ret) hy his ?_
  intro p e s m args below meth c s₁ B hml hP _
  have hh0 : s₁.heap = s.heap := by rw [B.state]; rfl
  obtain ⟨t, a1, o, b1, b2, b3⟩ := body p e s m args below meth c s₁ B hml hP s₁ hh0 (Stand.of_body B)
  exact ⟨t, o, a1, b1, b2, ⟨b3.1, b3.2⟩⟩
section Call2
variable {p : Program} {l : Launch} {e : Env} {R : Room} {s : State} {m : MethodId} {sargs : Array Value} {below : List Frame} {meth : Method} {c : Code} {U : State} {Ls : List Loc} {c0 s0 : Nat}
set_option maxHeartbeats 1000000 in
/-- the invoking of a method whose contract allows a throw: what it comes to -/
theorem tb_call2 (X : Stand p l e R s m sargs below meth c U Ls c0 s0) {y : MethodName} {ws : List Cond} {rm : Room} {Pc : Array Value → State → Prop} {Qc : State → Outcome → State → Prop} {mc ms : Nat} {free : Addr → Prop} {maxL : Nat}
    (hM : tb_Ok0 l y ws rm Pc Qc mc ms free) (hrc : rm.cells = mc) (hrs : rm.slots = ms) (hfr : rm.frames + 1 ≤ R.frames) (hlo : 8 + (maxL + 11) + rm.locals ≤ R.locals)
    {a : Array Value} (hws : ∀ w ∈ ws, w.before a U = true) (hini : (Cond.initialized y.cls).before a U = true)
    {g : JFrame} (hg : g.method = m) (hsize : g.locals.size = c.maxLocals) {ig : Instr} {len : Nat} (hdg : decode c.code g.pc = .ok (ig, len)) (hW : 2 * g.monitorRoom + (g.stack.map fun v => v.category).sum ≤ 8)
    {mk : MethodId} (hn : U.methodNamed? y = some mk) {methY : Method} {cY : Code} (hmY : U.vm.method? mk = some methY) (hcY : methY.code = some cY) (hlY : cY.maxLocals = maxL)
    (hcells : c0 + mc ≤ R.cells) (hslots : s0 + ms ≤ R.slots) (hP : Pc a (U.calling g mk a)) :
    ∃ (o : Outcome) (t U' : State) (L : List Loc), U'.heap = t.heap ∧ U'.vm = t.vm ∧ Stand p l e R s m sargs below meth c U' (Ls ++ L) (c0 + mc) (s0 + ms) ∧ Qc (U.calling g mk a) o t ∧ (∀ q ∈ L, free q.base) ∧
      (∀ v, o = .returned v → Steps p.tables e below (doInvoke e (U.setTop g) [] mk a).1 (U'.setTop { g with pc := g.pc + len, stack := v.toList ++ g.stack })) ∧
      (∀ x, o = .threw x → Steps p.tables e below (doInvoke e (U.setTop g) [] mk a).1 ((U'.setTop g).pushFrame (.throwing x))) := by
  obtain ⟨kY, hkY, -⟩ := className_of_methodNamed hn
  have hinitY : kY.init = .initialized := Cond.initialized_spec (findClass_of_methodNamed hn) hkY hini
  have h : At U g.method c below := by rw [hg]; exact X.here
  have happ : (headSpec ws rm).appliesLoose y e.platform (U.calling g mk a) = true :=
    Spec.appliesLoose_calling (g := g) h hdg hn hkY hinitY
      (X.room_calling (g := g) (R' := (headSpec ws rm).room) hsize hmY hcY hfr (by rw [hlY]; show _ + rm.locals ≤ _; omega) (by show c0 + rm.cells ≤ _; omega) (by show s0 + rm.slots ≤ _; omega)) (atoms_intro hws)
  obtain ⟨mid, hmid⟩ := h.above
  have hfrm : (U.setTop g).frames = (.java g :: mid) ++ below := by rw [State.frames_setTop' g h.top, hmid]; rfl
  obtain ⟨o, s₂, hsteps, -, hend, hq, L, ⟨hW₂, hsm⟩, hL⟩ := Steps.callFree hM p X.admits X.cas X.clock (acts := []) hfrm happ hP trivial
  rw [State.frames_setTop' g h.top] at hend
  have hq' : Qc (U.calling g mk a) o s₂ := hq
  have hsm' : (U.calling g mk a).sameButNew ({ s₂ with vm := (U.calling g mk a).vm } : State) L mc ms := hsm
  obtain ⟨e2, q2, q3, q4, q5, q6⟩ := id hsm'
  have e3 : s₂ = ({ (U.calling g mk a).setFrames s₂.frames with heap := s₂.heap, slotsUsed := s₂.slotsUsed } : State).setVm s₂.vm := by
    have : s₂ = ({ s₂ with vm := (U.calling g mk a).vm } : State).setVm s₂.vm := rfl
    rw [e2] at this
    exact this
  have hW' : U.WarmedH s₂.vm := hW₂
  obtain ⟨g₀, hg0⟩ := Option.isSome_iff_exists.mp h.top
  obtain ⟨r, hr⟩ := State.topJava?_eq_some.mp hg0
  have hr' : (({ U with heap := s₂.heap, slotsUsed := s₂.slotsUsed } : State).setVm s₂.vm).frames = .java g₀ :: r := hr
  have hsame : U.sameButNew ({ U with heap := s₂.heap, slotsUsed := s₂.slotsUsed } : State) L mc ms := by
    refine ⟨?_, q2, q3, q4, q5, q6⟩
    obtain ⟨t, ht, -⟩ := State.frames_cons hr
    show ({ U with heap := s₂.heap, slotsUsed := s₂.slotsUsed } : State) = { U.setFrames U.frames with heap := s₂.heap, slotsUsed := s₂.slotsUsed }
    rw [State.setFrames_self ht]
  subst hg
  refine ⟨o, s₂, (({ U with heap := s₂.heap, slotsUsed := s₂.slotsUsed } : State).setVm s₂.vm), L, rfl, rfl,
    ⟨X.admits, X.cas, X.clock, X.frames, X.room, X.hears, X.method, X.code, (X.here.setHeapUsed s₂.heap s₂.slotsUsed).setVm hW'.alike, X.tail, State.WarmedH.trans X.warmed hW', X.limits, X.bytes, X.same.trans (hsame.setVm s.vm)⟩, hq', hL, ?_, ?_⟩
  · intro v hv
    subst hv
    obtain ⟨c₂, i₂, len₂, hc₂, hd₂, hf₂⟩ := hend
    have hcc : c₂ = c := by
      have h1 : s₂.code? g.method = U.code? g.method := by
        rw [State.code?_eq, State.code?_eq, hW'.alike.method?]
      exact Option.some.inj (hc₂.symm.trans (h1.trans h.code))
    subst hcc
    have hlen : len₂ = len := by rw [hdg] at hd₂; cases hd₂; rfl
    subst hlen
    have hs₂ : s₂ = (({ U with heap := s₂.heap, slotsUsed := s₂.slotsUsed } : State).setVm s₂.vm).setTop { g with pc := g.pc + len₂, stack := v.toList ++ g.stack } := by
      refine e3.trans ?_
      rw [hf₂, State.calling_eq h.top, State.setFrames_setFrames, State.setTop_of_frames _ hr', hr]
      rfl
    rw [← hs₂]
    exact hsteps
  · intro x hx
    subst hx
    have hf₂ : s₂.frames = .throwing x :: (.java g :: U.frames.tail) := hend
    have hs₂ : s₂ = ((({ U with heap := s₂.heap, slotsUsed := s₂.slotsUsed } : State).setVm s₂.vm).setTop g).pushFrame (.throwing x) := by
      refine e3.trans ?_
      rw [hf₂, State.calling_eq h.top, State.setFrames_setFrames, State.pushFrame, State.frames_setTop _ hr', State.setTop_of_frames _ hr', State.setFrames_setFrames, hr]
      rfl
    rw [← hs₂]
    exact hsteps
end Call2
end
section
/-! Calls, as a walk sees them. -/
section Inv
variable {p : Program} {l : Launch} {e : Env} {R : Room} {s : State} {m : MethodId} {args : Array Value} {below : List Frame} {meth : Method} {c : Code} {H : Heap} {locs : List Loc} {cells slots : Nat}
/-- the instruction at g invokes y with a -/
def tb_Inv (p : Program) (l : Launch) (e : Env) (R : Room) (s : State) (m : MethodId) (args : Array Value) (below : List Frame) (meth : Method) (c : Code) (H : Heap) (locs : List Loc) (cells slots : Nat) (g : JFrame) (rest : List Value) (y : MethodName) (maxL : Nat) (a : Array Value) : Prop :=
  ∀ T : State, T.heap = H → Stand p l e R s m args below meth c T locs cells slots → ∃ (vm₁ : Vm) (mk : MethodId) (methY : Method) (cY : Code), Stand p l e R s m args below meth c (T.setVm vm₁) locs cells slots ∧
    (T.setVm vm₁).methodNamed? y = some mk ∧ (T.setVm vm₁).vm.method? mk = some methY ∧ methY.code = some cY ∧ cY.maxLocals = maxL ∧
    ∀ target, (∀ acts, Steps p.tables e below (doInvoke e ((T.setVm vm₁).setTop { g with stack := rest }) acts mk a).1 target) → Steps p.tables e below (T.setTop g) target
theorem tb_InvV {own C : String} {index : Nat} {y : MethodName} {bytes : ByteArray} {maxL : Nat} {ret : Option FieldType} (hexec : p.tables.exec = Jvm.exec)
    (hown : s.vm.findClass own = some m.cls) (hlink : (Cond.methodLink own index y).before args s = true) (hinst : (Cond.instanceMethod y).before args s = true) (hsel : (Cond.selects C y y).before args s = true)
    (hcode : (Cond.code y bytes maxL ret).before args s = true) (hy : y.cls ≠ "java/lang/invoke/MethodHandle" ∧ y.cls ≠ "java/lang/invoke/VarHandle")
    {b : Addr} {cellB : Cell} (hcell : H[b]? = some cellB) (hobj : cellB.vm.isStatics = false) (hcls : s.vm.findClass C = some cellB.cls)
    {g : JFrame} (hg : g.method = m) {argsL rest : List Value} (hlen : ∀ sig, parseMethodDescriptor y.desc = some sig → argsL.length = sig.parameters.length)
    (hstack : g.stack = argsL.reverse ++ .ref b :: rest) (hdg : decode c.code g.pc = .ok (.invokevirtual index, 3)) :
    tb_Inv p l e R s m args below meth c H locs cells slots g rest y maxL (Value.ref b :: argsL).toArray := by
  intro T hT X
  obtain ⟨mk, methM, hnamed, hmethM, hstM, habM⟩ := Cond.instanceMethod_spec hinst
  obtain ⟨methM', cM, hmethM', hcM, -, hlM, -, -, -, hsigM⟩ := Cond.code_spec hnamed hcode
  cases hmethM.symm.trans hmethM'
  obtain ⟨c2, r2, m2, q1, q2, q3, q4, kP, hkP, hkPi⟩ := Cond.selects_spec hsel
  cases hcls.symm.trans q1
  cases (State.methodFound?_of_named hnamed hy).symm.trans q2
  cases hnamed.symm.trans q3
  have hselP : selectMethod e.platform s.vm cellB.cls mk = .method mk := by rw [Launch.admits_selectMethod X.admits]; exact q4
  obtain ⟨vm₁, X₁, hstep₁⟩ := X.invokevirtual hexec hown hlink hnamed hmethM hstM hkP hkPi hy (a := b) (cell := cellB) (by rw [hT]; exact hcell)
    (fun z h => by rw [h] at hobj; cases hobj) hselP hmethM habM hkP hkPi (g := g) hg (argsL := argsL) (rest := rest) (hlen _ hsigM) hstack hdg
  exact ⟨vm₁, mk, methM, cM, X₁, X₁.named hnamed, by rw [X₁.warmed.alike.method?]; exact hmethM, hcM, hlM, hstep₁⟩
theorem tb_InvVN {own C host : String} {index : Nat} {y : MethodName} {bytes : ByteArray} {maxL : Nat} {ret : Option FieldType} (hexec : p.tables.exec = Jvm.exec)
    (hown : s.vm.findClass own = some m.cls) (hlink : (Cond.methodLinkNest own index y host).before args s = true) (hinst : (Cond.instanceMethod y).before args s = true) (hsel : (Cond.selects C y y).before args s = true)
    (hcode : (Cond.code y bytes maxL ret).before args s = true) (hy : y.cls ≠ "java/lang/invoke/MethodHandle" ∧ y.cls ≠ "java/lang/invoke/VarHandle")
    {b : Addr} {cellB : Cell} (hcell : H[b]? = some cellB) (hobj : cellB.vm.isStatics = false) (hcls : s.vm.findClass C = some cellB.cls)
    {g : JFrame} (hg : g.method = m) {argsL rest : List Value} (hlen : ∀ sig, parseMethodDescriptor y.desc = some sig → argsL.length = sig.parameters.length)
    (hstack : g.stack = argsL.reverse ++ .ref b :: rest) (hdg : decode c.code g.pc = .ok (.invokevirtual index, 3)) :
    tb_Inv p l e R s m args below meth c H locs cells slots g rest y maxL (Value.ref b :: argsL).toArray := by
  intro T hT X
  obtain ⟨mk, methM, hnamed, hmethM, hstM, habM⟩ := Cond.instanceMethod_spec hinst
  obtain ⟨methM', cM, hmethM', hcM, -, hlM, -, -, -, hsigM⟩ := Cond.code_spec hnamed hcode
  cases hmethM.symm.trans hmethM'
  obtain ⟨c2, r2, m2, q1, q2, q3, q4, kP, hkP, hkPi⟩ := Cond.selects_spec hsel
  cases hcls.symm.trans q1
  cases (State.methodFound?_of_named hnamed hy).symm.trans q2
  cases hnamed.symm.trans q3
  have hselP : selectMethod e.platform s.vm cellB.cls mk = .method mk := by rw [Launch.admits_selectMethod X.admits]; exact q4
  obtain ⟨vm₁, X₁, hstep₁⟩ := X.invokevirtualNest hexec hown hlink hnamed hmethM hstM hkP hkPi hy (a := b) (cell := cellB) (by rw [hT]; exact hcell)
    (fun z h => by rw [h] at hobj; cases hobj) hselP hmethM habM hkP hkPi (g := g) hg (argsL := argsL) (rest := rest) (hlen _ hsigM) hstack hdg
  exact ⟨vm₁, mk, methM, cM, X₁, X₁.named hnamed, by rw [X₁.warmed.alike.method?]; exact hmethM, hcM, hlM, hstep₁⟩
theorem tb_InvS {own : String} {index : Nat} {y : MethodName} {maxL : Nat} (hexec : p.tables.exec = Jvm.exec)
    (hown : s.vm.findClass own = some m.cls) (hlink : (Cond.methodLink own index y).before args s = true) (hstat : (Cond.static y).before args s = true) (hinit : (Cond.initialized y.cls).before args s = true)
    (hcode : ∃ mk methM cM, s.methodNamed? y = some mk ∧ s.vm.method? mk = some methM ∧ methM.code = some cM ∧ cM.maxLocals = maxL ∧ parseMethodDescriptor y.desc = some methM.sig) (hy : y.cls ≠ "java/lang/invoke/MethodHandle" ∧ y.cls ≠ "java/lang/invoke/VarHandle")
    {g : JFrame} (hg : g.method = m) {argsL rest : List Value} (hlen : ∀ sig, parseMethodDescriptor y.desc = some sig → argsL.length = sig.parameters.length)
    (hstack : g.stack = argsL.reverse ++ rest) (hdg : decode c.code g.pc = .ok (.invokestatic index, 3)) :
    tb_Inv p l e R s m args below meth c H locs cells slots g rest y maxL argsL.toArray := by
  intro T hT X
  obtain ⟨mk, methM, cM, hnamed, hmethM, hcM, hlM, hsigM⟩ := hcode
  have hstatic : methM.isStatic = true := Cond.static_spec hnamed hmethM hstat
  obtain ⟨kP, hkP, -⟩ := className_of_methodNamed hnamed
  have hinitP : kP.init = .initialized := Cond.initialized_spec (findClass_of_methodNamed hnamed) hkP hinit
  obtain ⟨vm₁, X₁, hstep₁⟩ := X.invokestatic hexec hown hlink hnamed hmethM hstatic hkP hinitP hy (g := g) hg (argsL := argsL) (rest := rest) (hlen _ hsigM) hstack hdg
  exact ⟨vm₁, mk, methM, cM, X₁, X₁.named hnamed, by rw [X₁.warmed.alike.method?]; exact hmethM, hcM, hlM, hstep₁⟩
theorem tb_InvSN {own host : String} {index : Nat} {y : MethodName} {maxL : Nat} (hexec : p.tables.exec = Jvm.exec)
    (hown : s.vm.findClass own = some m.cls) (hlink : (Cond.methodLinkNest own index y host).before args s = true) (hstat : (Cond.static y).before args s = true) (hinit : (Cond.initialized y.cls).before args s = true)
    (hcode : ∃ mk methM cM, s.methodNamed? y = some mk ∧ s.vm.method? mk = some methM ∧ methM.code = some cM ∧ cM.maxLocals = maxL ∧ parseMethodDescriptor y.desc = some methM.sig) (hy : y.cls ≠ "java/lang/invoke/MethodHandle" ∧ y.cls ≠ "java/lang/invoke/VarHandle")
    {g : JFrame} (hg : g.method = m) {argsL rest : List Value} (hlen : ∀ sig, parseMethodDescriptor y.desc = some sig → argsL.length = sig.parameters.length)
    (hstack : g.stack = argsL.reverse ++ rest) (hdg : decode c.code g.pc = .ok (.invokestatic index, 3)) :
    tb_Inv p l e R s m args below meth c H locs cells slots g rest y maxL argsL.toArray := by
  intro T hT X
  obtain ⟨mk, methM, cM, hnamed, hmethM, hcM, hlM, hsigM⟩ := hcode
  have hstatic : methM.isStatic = true := Cond.static_spec hnamed hmethM hstat
  obtain ⟨kP, hkP, -⟩ := className_of_methodNamed hnamed
  have hinitP : kP.init = .initialized := Cond.initialized_spec (findClass_of_methodNamed hnamed) hkP hinit
  obtain ⟨vm₁, X₁, hstep₁⟩ := X.invokestaticNest hexec hown hlink hnamed hmethM hstatic hkP hinitP hy (g := g) hg (argsL := argsL) (rest := rest) (hlen _ hsigM) hstack hdg
  exact ⟨vm₁, mk, methM, cM, X₁, X₁.named hnamed, by rw [X₁.warmed.alike.method?]; exact hmethM, hcM, hlM, hstep₁⟩
theorem tb_InvI {own : String} {index : Nat} {y : MethodName} {bytes : ByteArray} {maxL : Nat} (hexec : p.tables.exec = Jvm.exec)
    (hown : s.vm.findClass own = some m.cls) (hy1 : y.name = "<init>") (hlink : (Cond.methodLink own index y).before args s = true) (hinst : (Cond.instanceMethod y).before args s = true)
    (hcode : (Cond.code y bytes maxL none).before args s = true) (hy : y.cls ≠ "java/lang/invoke/MethodHandle" ∧ y.cls ≠ "java/lang/invoke/VarHandle")
    {g : JFrame} (hg : g.method = m) {a : Addr} {argsL rest : List Value} (hlen : ∀ sig, parseMethodDescriptor y.desc = some sig → argsL.length = sig.parameters.length)
    (hstack : g.stack = argsL.reverse ++ .ref a :: rest) (hdg : decode c.code g.pc = .ok (.invokespecial index, 3)) :
    tb_Inv p l e R s m args below meth c H locs cells slots g rest y maxL (Value.ref a :: argsL).toArray := by
  intro T hT X
  subst hg
  have hpl : e.platform.magicAccessors = ({} : Platform).magicAccessors := by rw [X.admits.platform]
  obtain ⟨mk, methM, cM, kP, vm₁, hnamed, hmethM, hcodeM, -, hlocalsM, -, hkP, -, hW₁, hstep₁⟩ := Steps.initColdArgs (e := e) X.here hexec X.warmed hpl hown hy1 hy hlink hinst hcode (f := g) rfl hlen hstack hdg
  have X₁ := X.noted hW₁
  exact ⟨vm₁, mk, methM, cM, X₁, X₁.named hnamed, by rw [X₁.warmed.alike.method?]; exact hmethM, hcodeM, hlocalsM, hstep₁⟩
theorem tb_InvIN {own host : String} {index : Nat} {y : MethodName} {bytes : ByteArray} {maxL : Nat} (hexec : p.tables.exec = Jvm.exec)
    (hown : s.vm.findClass own = some m.cls) (hy1 : y.name = "<init>") (hlink : (Cond.methodLinkNest own index y host).before args s = true) (hinst : (Cond.instanceMethod y).before args s = true)
    (hcode : (Cond.code y bytes maxL none).before args s = true) (hy : y.cls ≠ "java/lang/invoke/MethodHandle" ∧ y.cls ≠ "java/lang/invoke/VarHandle")
    {g : JFrame} (hg : g.method = m) {a : Addr} {argsL rest : List Value} (hlen : ∀ sig, parseMethodDescriptor y.desc = some sig → argsL.length = sig.parameters.length)
    (hstack : g.stack = argsL.reverse ++ .ref a :: rest) (hdg : decode c.code g.pc = .ok (.invokespecial index, 3)) :
    tb_Inv p l e R s m args below meth c H locs cells slots g rest y maxL (Value.ref a :: argsL).toArray := by
  intro T hT X
  subst hg
  have hpl : e.platform.magicAccessors = ({} : Platform).magicAccessors := by rw [X.admits.platform]
  obtain ⟨mk, methM, cM, kP, vm₁, hnamed, hmethM, hcodeM, -, hlocalsM, -, hkP, -, hW₁, hstep₁⟩ := Steps.initColdArgsNest (e := e) X.here hexec X.warmed hpl hown hy1 hy hlink hinst hcode (f := g) rfl hlen hstack hdg
  have X₁ := X.noted hW₁
  exact ⟨vm₁, mk, methM, cM, X₁, X₁.named hnamed, by rw [X₁.warmed.alike.method?]; exact hmethM, hcodeM, hlocalsM, hstep₁⟩
/-- the machine at a throw -/
def tb_WT (p : Program) (l : Launch) (e : Env) (R : Room) (s : State) (m : MethodId) (args : Array Value) (below : List Frame) (meth : Method) (c : Code) (H : Heap) (locs : List Loc) (cells slots : Nat) (Q : State → Prop) (g : JFrame) (a : Addr) : Prop :=
  ∀ T : State, T.heap = H → s.WarmedH T.vm → Stand p l e R s m args below meth c T locs cells slots → ∃ t, Steps p.tables e below ((T.setTop g).pushFrame (.throwing a)) t ∧ Q t
set_option maxHeartbeats 1000000 in
/-- a call by its contract -/
theorem tb_callW {E : tb_E} {k' : tb_MD} {d d' mc' ms' mc ms pc : Nat} {A : List tb_V} {M : tb_M} {Q' : tb_O → tb_M → Prop} {Q : State → Prop} {ls : Array Slot} {st rest : List Value}
    (hI : tb_Inv p E.1 e R s m args below meth c H locs cells slots (F0 m pc ls st) rest k'.1 k'.2.2.1 (A.map (tv E)).toArray)
    (hM : tb_Ok E k' d' mc' ms' A M Q') (hW0 : E.2.1.WarmedH s.vm) (hww : (tb_hw k').before args s = true) (hgood : (Cond.onTables (tb_hw k') && Cond.keeps (tb_hw k')) = true) (hini : (Cond.initialized k'.1.cls).before args s = true)
    (hH : tb_HR E M H) (hS : va_S (tb_A E) s.heap H locs) (hsize : ls.size = c.maxLocals) (hst : (rest.map fun v => v.category).sum ≤ 8) {ig : Instr} (hdg : decode c.code pc = .ok (ig, 3))
    (hR : tb_Rm R d mc ms) (hd : d' + 1 ≤ d) (hL : k'.2.2.1 ≤ 21) (hc : cells + mc' ≤ mc) (hs : slots + ms' ≤ ms)
    (kret : ∀ (v : Option tb_V) (M' : tb_M), Q' (.inl v) M' → ∀ (H' : Heap) (locs' : List Loc), tb_HR E M' H' → va_S (tb_A E) s.heap H' locs' → W p E.1 e R s m args below meth c H' locs' (cells + mc') (slots + ms') Q (F0 m (pc + 3) ls ((v.map (tv E)).toList ++ rest)))
    (kthr : ∀ (x : Nat) (M' : tb_M), Q' (.inr x) M' → ∀ (H' : Heap) (locs' : List Loc) (a : Addr) (cell : Cell), tb_HR E M' H' → va_S (tb_A E) s.heap H' locs' → H'[a]? = some cell → (∀ q, cell.vm ≠ .statics q) → s.vm.findClass (tb_xn x) = some cell.cls → tb_WT p E.1 e R s m args below meth c H' locs' (cells + mc') (slots + ms') Q (F0 m pc ls rest) a) :
    W p E.1 e R s m args below meth c H locs cells slots Q (F0 m pc ls st) := by
  intro T hT X
  obtain ⟨vm₁, mk, methY, cY, X₁, hn, hmY, hcY, hlY, hstep⟩ := hI T hT X
  have hg2 : ({ F0 m pc ls st with stack := rest } : JFrame) = F0 m pc ls rest := rfl
  rw [hg2] at hstep
  have hHT : (T.setVm vm₁).heap = H := hT
  have hPc : tb_Pc E A M (A.map (tv E)).toArray ((T.setVm vm₁).calling (F0 m pc ls rest) mk (A.map (tv E)).toArray) := ⟨rfl, State.WarmedH.trans hW0 X₁.warmed, by show tb_HR E M (T.setVm vm₁).heap; rw [hHT]; exact hH⟩
  obtain ⟨o, t, U', L, e1, e2, X', hq, hL', hr, ht⟩ := tb_call2 X₁ hM rfl rfl (Nat.le_trans hd hR.1) (by show 8 + (k'.2.2.1 + 11) + 40 * d' ≤ R.locals; have := hR.2.1; omega) (a := (A.map (tv E)).toArray)
    (fun w hw => by rw [List.mem_singleton.mp hw]; exact word_at X₁.warmed (Or.inl hgood) hww) (word_at X₁.warmed (Or.inl (by first | rfl | simp [Cond.onTables, Cond.keeps, Cond.steady])) hini)
    (g := F0 m pc ls rest) rfl hsize hdg (by simpa [JFrame.monitorRoom] using hst) hn hmY hcY hlY (Nat.le_trans hc hR.2.2.1) (Nat.le_trans hs hR.2.2.2) hPc
  obtain ⟨⟨o', M', hQ, hoc, hHR⟩, hz, hk⟩ := hq
  have hz' : H.size ≤ U'.heap.size := by rw [e1, ← hHT]; exact hz
  have hS' : va_S (tb_A E) s.heap U'.heap (locs ++ L) := by
    refine ⟨Nat.le_trans hS.1 hz', fun q h1 h2 => ?_, fun q hq => ?_⟩
    · have h3 : q < H.size := Nat.lt_of_lt_of_le h1 hS.1
      have h4 := hk q (by show q < (T.setVm vm₁).heap.size; rw [hHT]; exact h3) h2
      have h5 : ((T.setVm vm₁).calling (F0 m pc ls rest) mk (A.map (tv E)).toArray).heap = H := hHT
      rw [e1, h4, h5]
      exact hS.2.1 q h1 h2
    · rcases List.mem_append.mp hq with h | h
      · exact hS.2.2 q h
      · exact hL' q h
  have hHR' : tb_HR E M' U'.heap := by rw [e1]; exact hHR
  cases o' with
  | inl v =>
    have hret : o = .returned (v.map (tv E)) := by
      cases v with
      | none => exact hoc
      | some v => exact hoc
    obtain ⟨t2, a1, b1⟩ := kret v M' hQ U'.heap (locs ++ L) hHR' hS' U' rfl X'
    refine ⟨t2, ?_, b1⟩
    refine hstep _ fun acts => ?_
    rw [doInvoke_state]
    exact (hr _ hret).trans a1
  | inr x =>
    obtain ⟨a, ha, cell, h1, h2, h3⟩ := hoc
    have h3' : s.vm.findClass (tb_xn x) = some cell.cls := by
      rw [← X'.warmed.alike.findClass, e2]; exact h3
    obtain ⟨t2, a1, b1⟩ := kthr x M' hQ U'.heap (locs ++ L) a cell hHR' hS' (by rw [e1]; exact h1) h2 h3' U' rfl X'.warmed X'
    refine ⟨t2, ?_, b1⟩
    refine hstep _ fun acts => ?_
    rw [doInvoke_state]
    exact (ht _ ha).trans a1
end Inv
end
section
/-! One-instruction rules of the walk. -/
section Rules
variable {E : tb_E} {k : tb_MD} {d rc rs pc pc' : Nat} {L : List tb_L} {S : List tb_V} {M : tb_M} {Q : tb_O → tb_M → Prop}
theorem tb_iconst {n : Int} (v : Int32) (hv : Int32.ofInt n = v) (hd : decode k.2.1 pc = .ok (.iconst n, 1)) (hp : pc + 1 = pc') (kk : tb_Wp E k d rc rs pc' L (.inl v :: S) M Q) : tb_Wp E k d rc rs pc L (S) M Q := by
  subst hp
  intro p e R s m args below meth c H locs cells slots mc ms ls C hl hH hS h1 h2 hR
  exact lv_iconst C.1 C.2.1 hd hv (kk p e R s m args below meth c H locs cells slots mc ms ls C hl hH hS h1 h2 hR)
theorem tb_bipush {n : Int} (v : Int32) (hv : (Int8.ofInt n).toInt32 = v) (hd : decode k.2.1 pc = .ok (.bipush n, 2)) (hp : pc + 2 = pc') (kk : tb_Wp E k d rc rs pc' L (.inl v :: S) M Q) : tb_Wp E k d rc rs pc L (S) M Q := by
  subst hp
  intro p e R s m args below meth c H locs cells slots mc ms ls C hl hH hS h1 h2 hR
  exact lv_bipush C.1 C.2.1 hd hv (kk p e R s m args below meth c H locs cells slots mc ms ls C hl hH hS h1 h2 hR)
theorem tb_sipush {n : Int} (v : Int32) (hv : (Int16.ofInt n).toInt32 = v) (hd : decode k.2.1 pc = .ok (.sipush n, 3)) (hp : pc + 3 = pc') (kk : tb_Wp E k d rc rs pc' L (.inl v :: S) M Q) : tb_Wp E k d rc rs pc L (S) M Q := by
  subst hp
  intro p e R s m args below meth c H locs cells slots mc ms ls C hl hH hS h1 h2 hR
  exact lv_sipush C.1 C.2.1 hd hv (kk p e R s m args below meth c H locs cells slots mc ms ls C hl hH hS h1 h2 hR)
theorem tb_null (hd : decode k.2.1 pc = .ok (.aconst_null, 1)) (hp : pc + 1 = pc') (kk : tb_Wp E k d rc rs pc' L (.inr (.inl 0) :: S) M Q) : tb_Wp E k d rc rs pc L (S) M Q := by
  subst hp
  intro p e R s m args below meth c H locs cells slots mc ms ls C hl hH hS h1 h2 hR
  exact lv_null C.1 C.2.1 hd (kk p e R s m args below meth c H locs cells slots mc ms ls C hl hH hS h1 h2 hR)
theorem tb_iadd {x y : Int32} (hd : decode k.2.1 pc = .ok (.iadd, 1)) (hp : pc + 1 = pc') (kk : tb_Wp E k d rc rs pc' L (.inl (x + y) :: S) M Q) : tb_Wp E k d rc rs pc L (.inl y :: .inl x :: S) M Q := by
  subst hp
  intro p e R s m args below meth c H locs cells slots mc ms ls C hl hH hS h1 h2 hR
  exact lv_iadd C.1 C.2.1 hd (kk p e R s m args below meth c H locs cells slots mc ms ls C hl hH hS h1 h2 hR)
theorem tb_isub {x y : Int32} (hd : decode k.2.1 pc = .ok (.isub, 1)) (hp : pc + 1 = pc') (kk : tb_Wp E k d rc rs pc' L (.inl (x - y) :: S) M Q) : tb_Wp E k d rc rs pc L (.inl y :: .inl x :: S) M Q := by
  subst hp
  intro p e R s m args below meth c H locs cells slots mc ms ls C hl hH hS h1 h2 hR
  exact lv_isub C.1 C.2.1 hd (kk p e R s m args below meth c H locs cells slots mc ms ls C hl hH hS h1 h2 hR)
theorem tb_imul {x y : Int32} (hd : decode k.2.1 pc = .ok (.imul, 1)) (hp : pc + 1 = pc') (kk : tb_Wp E k d rc rs pc' L (.inl (x * y) :: S) M Q) : tb_Wp E k d rc rs pc L (.inl y :: .inl x :: S) M Q := by
  subst hp
  intro p e R s m args below meth c H locs cells slots mc ms ls C hl hH hS h1 h2 hR
  exact lv_imul C.1 C.2.1 hd (kk p e R s m args below meth c H locs cells slots mc ms ls C hl hH hS h1 h2 hR)
theorem tb_iand {x y : Int32} (hd : decode k.2.1 pc = .ok (.iand, 1)) (hp : pc + 1 = pc') (kk : tb_Wp E k d rc rs pc' L (.inl (x &&& y) :: S) M Q) : tb_Wp E k d rc rs pc L (.inl y :: .inl x :: S) M Q := by
  subst hp
  intro p e R s m args below meth c H locs cells slots mc ms ls C hl hH hS h1 h2 hR
  exact lv_iand C.1 C.2.1 hd (kk p e R s m args below meth c H locs cells slots mc ms ls C hl hH hS h1 h2 hR)
theorem tb_ior {x y : Int32} (hd : decode k.2.1 pc = .ok (.ior, 1)) (hp : pc + 1 = pc') (kk : tb_Wp E k d rc rs pc' L (.inl (x ||| y) :: S) M Q) : tb_Wp E k d rc rs pc L (.inl y :: .inl x :: S) M Q := by
  subst hp
  intro p e R s m args below meth c H locs cells slots mc ms ls C hl hH hS h1 h2 hR
  exact lv_ior C.1 C.2.1 hd (kk p e R s m args below meth c H locs cells slots mc ms ls C hl hH hS h1 h2 hR)
theorem tb_ixor {x y : Int32} (hd : decode k.2.1 pc = .ok (.ixor, 1)) (hp : pc + 1 = pc') (kk : tb_Wp E k d rc rs pc' L (.inl (x ^^^ y) :: S) M Q) : tb_Wp E k d rc rs pc L (.inl y :: .inl x :: S) M Q := by
  subst hp
  intro p e R s m args below meth c H locs cells slots mc ms ls C hl hH hS h1 h2 hR
  exact lv_ixor C.1 C.2.1 hd (kk p e R s m args below meth c H locs cells slots mc ms ls C hl hH hS h1 h2 hR)
theorem tb_ishl {x y : Int32} (hd : decode k.2.1 pc = .ok (.ishl, 1)) (hp : pc + 1 = pc') (kk : tb_Wp E k d rc rs pc' L (.inl (x <<< (y &&& 31)) :: S) M Q) : tb_Wp E k d rc rs pc L (.inl y :: .inl x :: S) M Q := by
  subst hp
  intro p e R s m args below meth c H locs cells slots mc ms ls C hl hH hS h1 h2 hR
  exact lv_ishl C.1 C.2.1 hd (kk p e R s m args below meth c H locs cells slots mc ms ls C hl hH hS h1 h2 hR)
theorem tb_ishr {x y : Int32} (hd : decode k.2.1 pc = .ok (.ishr, 1)) (hp : pc + 1 = pc') (kk : tb_Wp E k d rc rs pc' L (.inl (x >>> (y &&& 31)) :: S) M Q) : tb_Wp E k d rc rs pc L (.inl y :: .inl x :: S) M Q := by
  subst hp
  intro p e R s m args below meth c H locs cells slots mc ms ls C hl hH hS h1 h2 hR
  exact lv_ishr C.1 C.2.1 hd (kk p e R s m args below meth c H locs cells slots mc ms ls C hl hH hS h1 h2 hR)
theorem tb_irem {x y : Int32} (hne : ¬ y = 0) (hd : decode k.2.1 pc = .ok (.irem, 1)) (hp : pc + 1 = pc') (kk : tb_Wp E k d rc rs pc' L (.inl (x - x / y * y) :: S) M Q) : tb_Wp E k d rc rs pc L (.inl y :: .inl x :: S) M Q := by
  subst hp
  intro p e R s m args below meth c H locs cells slots mc ms ls C hl hH hS h1 h2 hR
  exact lv_irem C.1 C.2.1 hd hne (kk p e R s m args below meth c H locs cells slots mc ms ls C hl hH hS h1 h2 hR)
theorem tb_i2s {x : Int32} (hd : decode k.2.1 pc = .ok (.i2s, 1)) (hp : pc + 1 = pc') (kk : tb_Wp E k d rc rs pc' L (.inl x.toInt16.toInt32 :: S) M Q) : tb_Wp E k d rc rs pc L (.inl x :: S) M Q := by
  subst hp
  intro p e R s m args below meth c H locs cells slots mc ms ls C hl hH hS h1 h2 hR
  exact lv_i2s C.1 C.2.1 hd rfl (kk p e R s m args below meth c H locs cells slots mc ms ls C hl hH hS h1 h2 hR)
theorem tb_i2c {x : Int32} (hd : decode k.2.1 pc = .ok (.i2c, 1)) (hp : pc + 1 = pc') (kk : tb_Wp E k d rc rs pc' L (.inl (x.toUInt32 % 65536).toInt32 :: S) M Q) : tb_Wp E k d rc rs pc L (.inl x :: S) M Q := by
  subst hp
  intro p e R s m args below meth c H locs cells slots mc ms ls C hl hH hS h1 h2 hR
  exact lv_i2c C.1 C.2.1 hd rfl (kk p e R s m args below meth c H locs cells slots mc ms ls C hl hH hS h1 h2 hR)
theorem tb_i2l {x : Int32} (hd : decode k.2.1 pc = .ok (.i2l, 1)) (hp : pc + 1 = pc') (kk : tb_Wp E k d rc rs pc' L (.inr (.inr x.toInt64) :: S) M Q) : tb_Wp E k d rc rs pc L (.inl x :: S) M Q := by
  subst hp
  intro p e R s m args below meth c H locs cells slots mc ms ls C hl hH hS h1 h2 hR
  exact lv_i2l C.1 C.2.1 hd rfl (kk p e R s m args below meth c H locs cells slots mc ms ls C hl hH hS h1 h2 hR)
theorem tb_dupi {x : Int32} (hd : decode k.2.1 pc = .ok (.dup, 1)) (hp : pc + 1 = pc') (kk : tb_Wp E k d rc rs pc' L (.inl x :: .inl x :: S) M Q) : tb_Wp E k d rc rs pc L (.inl x :: S) M Q := by
  subst hp
  intro p e R s m args below meth c H locs cells slots mc ms ls C hl hH hS h1 h2 hR
  exact lv_dup (va := .int x) C.1 C.2.1 hd rfl (kk p e R s m args below meth c H locs cells slots mc ms ls C hl hH hS h1 h2 hR)
theorem tb_rcat (E : tb_E) (r : Nat) : (va_rf (tb_ro E r)).category = 1 := by cases r <;> rfl
theorem tb_dup {r : Nat} (hd : decode k.2.1 pc = .ok (.dup, 1)) (hp : pc + 1 = pc') (kk : tb_Wp E k d rc rs pc' L (.inr (.inl r) :: .inr (.inl r) :: S) M Q) : tb_Wp E k d rc rs pc L (.inr (.inl r) :: S) M Q := by
  subst hp
  intro p e R s m args below meth c H locs cells slots mc ms ls C hl hH hS h1 h2 hR
  exact lv_dup (va := va_rf (tb_ro E r)) C.1 C.2.1 hd (tb_rcat E r) (kk p e R s m args below meth c H locs cells slots mc ms ls C hl hH hS h1 h2 hR)
theorem tb_popi {x : Int32} (hd : decode k.2.1 pc = .ok (.pop, 1)) (hp : pc + 1 = pc') (kk : tb_Wp E k d rc rs pc' L (S) M Q) : tb_Wp E k d rc rs pc L (.inl x :: S) M Q := by
  subst hp
  intro p e R s m args below meth c H locs cells slots mc ms ls C hl hH hS h1 h2 hR
  exact lv_pop (va := .int x) C.1 C.2.1 hd rfl (kk p e R s m args below meth c H locs cells slots mc ms ls C hl hH hS h1 h2 hR)
theorem tb_popr {r : Nat} (hd : decode k.2.1 pc = .ok (.pop, 1)) (hp : pc + 1 = pc') (kk : tb_Wp E k d rc rs pc' L (S) M Q) : tb_Wp E k d rc rs pc L (.inr (.inl r) :: S) M Q := by
  subst hp
  intro p e R s m args below meth c H locs cells slots mc ms ls C hl hH hS h1 h2 hR
  exact lv_pop (va := va_rf (tb_ro E r)) C.1 C.2.1 hd (tb_rcat E r) (kk p e R s m args below meth c H locs cells slots mc ms ls C hl hH hS h1 h2 hR)
theorem tb_dup_x1 {x : Int32} {r : Nat} (hd : decode k.2.1 pc = .ok (.dup_x1, 1)) (hp : pc + 1 = pc') (kk : tb_Wp E k d rc rs pc' L (.inl x :: .inr (.inl r) :: .inl x :: S) M Q) : tb_Wp E k d rc rs pc L (.inl x :: .inr (.inl r) :: S) M Q := by
  subst hp
  intro p e R s m args below meth c H locs cells slots mc ms ls C hl hH hS h1 h2 hR
  exact lv_dup_x1 (va := .int x) (vb := va_rf (tb_ro E r)) C.1 C.2.1 hd rfl (tb_rcat E r) (kk p e R s m args below meth c H locs cells slots mc ms ls C hl hH hS h1 h2 hR)
theorem tb_dup2 {x : Int32} {r : Nat} (hd : decode k.2.1 pc = .ok (.dup2, 1)) (hp : pc + 1 = pc') (kk : tb_Wp E k d rc rs pc' L (.inl x :: .inr (.inl r) :: .inl x :: .inr (.inl r) :: S) M Q) : tb_Wp E k d rc rs pc L (.inl x :: .inr (.inl r) :: S) M Q := by
  subst hp
  intro p e R s m args below meth c H locs cells slots mc ms ls C hl hH hS h1 h2 hR
  exact lv_dup2_11 (va := .int x) (vb := va_rf (tb_ro E r)) C.1 C.2.1 hd rfl (tb_rcat E r) (kk p e R s m args below meth c H locs cells slots mc ms ls C hl hH hS h1 h2 hR)
theorem tb_dup_x2 {x y : Int32} {r : Nat} (hd : decode k.2.1 pc = .ok (.dup_x2, 1)) (hp : pc + 1 = pc') (kk : tb_Wp E k d rc rs pc' L (.inl x :: .inl y :: .inr (.inl r) :: .inl x :: S) M Q) : tb_Wp E k d rc rs pc L (.inl x :: .inl y :: .inr (.inl r) :: S) M Q := by
  subst hp
  intro p e R s m args below meth c H locs cells slots mc ms ls C hl hH hS h1 h2 hR
  exact lv_dup_x2 (va := .int x) (vb := .int y) (vd := va_rf (tb_ro E r)) C.1 C.2.1 hd rfl rfl (tb_rcat E r) (kk p e R s m args below meth c H locs cells slots mc ms ls C hl hH hS h1 h2 hR)
theorem tb_if_eq {x : Int32} {off : Int} (tg : Nat) (hd : decode k.2.1 pc = .ok (.ifCond .eq off, 3)) (ht : (pc : Int) + off = (tg : Int)) (hp : pc + 3 = pc') (kt : x = 0 → tb_Wp E k d rc rs tg L S M Q) (kf : ¬ x = 0 → tb_Wp E k d rc rs pc' L S M Q) : tb_Wp E k d rc rs pc L (.inl x :: S) M Q := by
  subst hp
  intro p e R s m args below meth c H locs cells slots mc ms ls C hl hH hS h1 h2 hR
  exact lv_if_eq C.1 C.2.1 hd ht (fun hc => kt hc p e R s m args below meth c H locs cells slots mc ms ls C hl hH hS h1 h2 hR) (fun hc => kf hc p e R s m args below meth c H locs cells slots mc ms ls C hl hH hS h1 h2 hR)
theorem tb_icmp_eq {x y : Int32} {off : Int} (tg : Nat) (hd : decode k.2.1 pc = .ok (.if_icmp .eq off, 3)) (ht : (pc : Int) + off = (tg : Int)) (hp : pc + 3 = pc') (kt : x = y → tb_Wp E k d rc rs tg L S M Q) (kf : ¬ x = y → tb_Wp E k d rc rs pc' L S M Q) : tb_Wp E k d rc rs pc L (.inl y :: .inl x :: S) M Q := by
  subst hp
  intro p e R s m args below meth c H locs cells slots mc ms ls C hl hH hS h1 h2 hR
  exact lv_icmp_eq C.1 C.2.1 hd ht (fun hc => kt hc p e R s m args below meth c H locs cells slots mc ms ls C hl hH hS h1 h2 hR) (fun hc => kf hc p e R s m args below meth c H locs cells slots mc ms ls C hl hH hS h1 h2 hR)
theorem tb_if_ne {x : Int32} {off : Int} (tg : Nat) (hd : decode k.2.1 pc = .ok (.ifCond .ne off, 3)) (ht : (pc : Int) + off = (tg : Int)) (hp : pc + 3 = pc') (kt : ¬ x = 0 → tb_Wp E k d rc rs tg L S M Q) (kf : x = 0 → tb_Wp E k d rc rs pc' L S M Q) : tb_Wp E k d rc rs pc L (.inl x :: S) M Q := by
  subst hp
  intro p e R s m args below meth c H locs cells slots mc ms ls C hl hH hS h1 h2 hR
  exact lv_if_ne C.1 C.2.1 hd ht (fun hc => kt hc p e R s m args below meth c H locs cells slots mc ms ls C hl hH hS h1 h2 hR) (fun hc => kf hc p e R s m args below meth c H locs cells slots mc ms ls C hl hH hS h1 h2 hR)
theorem tb_icmp_ne {x y : Int32} {off : Int} (tg : Nat) (hd : decode k.2.1 pc = .ok (.if_icmp .ne off, 3)) (ht : (pc : Int) + off = (tg : Int)) (hp : pc + 3 = pc') (kt : ¬ x = y → tb_Wp E k d rc rs tg L S M Q) (kf : x = y → tb_Wp E k d rc rs pc' L S M Q) : tb_Wp E k d rc rs pc L (.inl y :: .inl x :: S) M Q := by
  subst hp
  intro p e R s m args below meth c H locs cells slots mc ms ls C hl hH hS h1 h2 hR
  exact lv_icmp_ne C.1 C.2.1 hd ht (fun hc => kt hc p e R s m args below meth c H locs cells slots mc ms ls C hl hH hS h1 h2 hR) (fun hc => kf hc p e R s m args below meth c H locs cells slots mc ms ls C hl hH hS h1 h2 hR)
theorem tb_if_lt {x : Int32} {off : Int} (tg : Nat) (hd : decode k.2.1 pc = .ok (.ifCond .lt off, 3)) (ht : (pc : Int) + off = (tg : Int)) (hp : pc + 3 = pc') (kt : x < 0 → tb_Wp E k d rc rs tg L S M Q) (kf : ¬ x < 0 → tb_Wp E k d rc rs pc' L S M Q) : tb_Wp E k d rc rs pc L (.inl x :: S) M Q := by
  subst hp
  intro p e R s m args below meth c H locs cells slots mc ms ls C hl hH hS h1 h2 hR
  exact lv_if_lt C.1 C.2.1 hd ht (fun hc => kt hc p e R s m args below meth c H locs cells slots mc ms ls C hl hH hS h1 h2 hR) (fun hc => kf hc p e R s m args below meth c H locs cells slots mc ms ls C hl hH hS h1 h2 hR)
theorem tb_icmp_lt {x y : Int32} {off : Int} (tg : Nat) (hd : decode k.2.1 pc = .ok (.if_icmp .lt off, 3)) (ht : (pc : Int) + off = (tg : Int)) (hp : pc + 3 = pc') (kt : x < y → tb_Wp E k d rc rs tg L S M Q) (kf : ¬ x < y → tb_Wp E k d rc rs pc' L S M Q) : tb_Wp E k d rc rs pc L (.inl y :: .inl x :: S) M Q := by
  subst hp
  intro p e R s m args below meth c H locs cells slots mc ms ls C hl hH hS h1 h2 hR
  exact lv_icmp_lt C.1 C.2.1 hd ht (fun hc => kt hc p e R s m args below meth c H locs cells slots mc ms ls C hl hH hS h1 h2 hR) (fun hc => kf hc p e R s m args below meth c H locs cells slots mc ms ls C hl hH hS h1 h2 hR)
theorem tb_if_ge {x : Int32} {off : Int} (tg : Nat) (hd : decode k.2.1 pc = .ok (.ifCond .ge off, 3)) (ht : (pc : Int) + off = (tg : Int)) (hp : pc + 3 = pc') (kt : 0 ≤ x → tb_Wp E k d rc rs tg L S M Q) (kf : ¬ 0 ≤ x → tb_Wp E k d rc rs pc' L S M Q) : tb_Wp E k d rc rs pc L (.inl x :: S) M Q := by
  subst hp
  intro p e R s m args below meth c H locs cells slots mc ms ls C hl hH hS h1 h2 hR
  exact lv_if_ge C.1 C.2.1 hd ht (fun hc => kt hc p e R s m args below meth c H locs cells slots mc ms ls C hl hH hS h1 h2 hR) (fun hc => kf hc p e R s m args below meth c H locs cells slots mc ms ls C hl hH hS h1 h2 hR)
theorem tb_icmp_ge {x y : Int32} {off : Int} (tg : Nat) (hd : decode k.2.1 pc = .ok (.if_icmp .ge off, 3)) (ht : (pc : Int) + off = (tg : Int)) (hp : pc + 3 = pc') (kt : y ≤ x → tb_Wp E k d rc rs tg L S M Q) (kf : ¬ y ≤ x → tb_Wp E k d rc rs pc' L S M Q) : tb_Wp E k d rc rs pc L (.inl y :: .inl x :: S) M Q := by
  subst hp
  intro p e R s m args below meth c H locs cells slots mc ms ls C hl hH hS h1 h2 hR
  exact lv_icmp_ge C.1 C.2.1 hd ht (fun hc => kt hc p e R s m args below meth c H locs cells slots mc ms ls C hl hH hS h1 h2 hR) (fun hc => kf hc p e R s m args below meth c H locs cells slots mc ms ls C hl hH hS h1 h2 hR)
theorem tb_if_gt {x : Int32} {off : Int} (tg : Nat) (hd : decode k.2.1 pc = .ok (.ifCond .gt off, 3)) (ht : (pc : Int) + off = (tg : Int)) (hp : pc + 3 = pc') (kt : 0 < x → tb_Wp E k d rc rs tg L S M Q) (kf : ¬ 0 < x → tb_Wp E k d rc rs pc' L S M Q) : tb_Wp E k d rc rs pc L (.inl x :: S) M Q := by
  subst hp
  intro p e R s m args below meth c H locs cells slots mc ms ls C hl hH hS h1 h2 hR
  exact lv_if_gt C.1 C.2.1 hd ht (fun hc => kt hc p e R s m args below meth c H locs cells slots mc ms ls C hl hH hS h1 h2 hR) (fun hc => kf hc p e R s m args below meth c H locs cells slots mc ms ls C hl hH hS h1 h2 hR)
theorem tb_icmp_gt {x y : Int32} {off : Int} (tg : Nat) (hd : decode k.2.1 pc = .ok (.if_icmp .gt off, 3)) (ht : (pc : Int) + off = (tg : Int)) (hp : pc + 3 = pc') (kt : y < x → tb_Wp E k d rc rs tg L S M Q) (kf : ¬ y < x → tb_Wp E k d rc rs pc' L S M Q) : tb_Wp E k d rc rs pc L (.inl y :: .inl x :: S) M Q := by
  subst hp
  intro p e R s m args below meth c H locs cells slots mc ms ls C hl hH hS h1 h2 hR
  exact lv_icmp_gt C.1 C.2.1 hd ht (fun hc => kt hc p e R s m args below meth c H locs cells slots mc ms ls C hl hH hS h1 h2 hR) (fun hc => kf hc p e R s m args below meth c H locs cells slots mc ms ls C hl hH hS h1 h2 hR)
theorem tb_if_le {x : Int32} {off : Int} (tg : Nat) (hd : decode k.2.1 pc = .ok (.ifCond .le off, 3)) (ht : (pc : Int) + off = (tg : Int)) (hp : pc + 3 = pc') (kt : x ≤ 0 → tb_Wp E k d rc rs tg L S M Q) (kf : ¬ x ≤ 0 → tb_Wp E k d rc rs pc' L S M Q) : tb_Wp E k d rc rs pc L (.inl x :: S) M Q := by
  subst hp
  intro p e R s m args below meth c H locs cells slots mc ms ls C hl hH hS h1 h2 hR
  exact lv_if_le C.1 C.2.1 hd ht (fun hc => kt hc p e R s m args below meth c H locs cells slots mc ms ls C hl hH hS h1 h2 hR) (fun hc => kf hc p e R s m args below meth c H locs cells slots mc ms ls C hl hH hS h1 h2 hR)
theorem tb_icmp_le {x y : Int32} {off : Int} (tg : Nat) (hd : decode k.2.1 pc = .ok (.if_icmp .le off, 3)) (ht : (pc : Int) + off = (tg : Int)) (hp : pc + 3 = pc') (kt : x ≤ y → tb_Wp E k d rc rs tg L S M Q) (kf : ¬ x ≤ y → tb_Wp E k d rc rs pc' L S M Q) : tb_Wp E k d rc rs pc L (.inl y :: .inl x :: S) M Q := by
  subst hp
  intro p e R s m args below meth c H locs cells slots mc ms ls C hl hH hS h1 h2 hR
  exact lv_icmp_le C.1 C.2.1 hd ht (fun hc => kt hc p e R s m args below meth c H locs cells slots mc ms ls C hl hH hS h1 h2 hR) (fun hc => kf hc p e R s m args below meth c H locs cells slots mc ms ls C hl hH hS h1 h2 hR)
theorem tb_goto {off : Int} (tg : Nat) (hd : decode k.2.1 pc = .ok (.goto off, 3)) (ht : (pc : Int) + off = (tg : Int)) (kk : tb_Wp E k d rc rs tg L S M Q) : tb_Wp E k d rc rs pc L S M Q := by
  intro p e R s m args below meth c H locs cells slots mc ms ls C hl hH hS h1 h2 hR
  exact lv_goto C.1 C.2.1 hd ht (kk p e R s m args below meth c H locs cells slots mc ms ls C hl hH hS h1 h2 hR)
theorem tb_ifnull {r : Nat} {off : Int} (tg : Nat) (hd : decode k.2.1 pc = .ok (.ifnull off, 3)) (ht : (pc : Int) + off = (tg : Int)) (hp : pc + 3 = pc') (kt : r = 0 → tb_Wp E k d rc rs tg L S M Q) (kf : ¬ r = 0 → tb_Wp E k d rc rs pc' L S M Q) : tb_Wp E k d rc rs pc L (.inr (.inl r) :: S) M Q := by
  subst hp
  intro p e R s m args below meth c H locs cells slots mc ms ls C hl hH hS h1 h2 hR
  cases r with
  | zero => exact lv_ifnullN C.1 C.2.1 hd ht (kt rfl p e R s m args below meth c H locs cells slots mc ms ls C hl hH hS h1 h2 hR)
  | succ r => exact lv_ifnull C.1 C.2.1 hd (kf (by omega) p e R s m args below meth c H locs cells slots mc ms ls C hl hH hS h1 h2 hR)
theorem tb_ifnonnull {r : Nat} {off : Int} (tg : Nat) (hd : decode k.2.1 pc = .ok (.ifnonnull off, 3)) (ht : (pc : Int) + off = (tg : Int)) (hp : pc + 3 = pc') (kt : ¬ r = 0 → tb_Wp E k d rc rs tg L S M Q) (kf : r = 0 → tb_Wp E k d rc rs pc' L S M Q) : tb_Wp E k d rc rs pc L (.inr (.inl r) :: S) M Q := by
  subst hp
  intro p e R s m args below meth c H locs cells slots mc ms ls C hl hH hS h1 h2 hR
  cases r with
  | zero => exact lv_ifnonnullN C.1 C.2.1 hd (kf rfl p e R s m args below meth c H locs cells slots mc ms ls C hl hH hS h1 h2 hR)
  | succ r => exact lv_ifnonnull C.1 C.2.1 hd ht (kt (by omega) p e R s m args below meth c H locs cells slots mc ms ls C hl hH hS h1 h2 hR)
theorem tb_iloadn {j : Fin 4} {x : Int32} (hd : decode k.2.1 pc = .ok (.iload_n j, 1)) (hp : pc + 1 = pc') (hx : L[(j : Nat)]? = some (some (.inl x))) (kk : tb_Wp E k d rc rs pc' L (.inl x :: S) M Q) : tb_Wp E k d rc rs pc L S M Q := by
  subst hp
  intro p e R s m args below meth c H locs cells slots mc ms ls C hl hH hS h1 h2 hR
  exact lv_iload_n C.1 C.2.1 hd rfl (tb_at hl hx) (kk p e R s m args below meth c H locs cells slots mc ms ls C hl hH hS h1 h2 hR)
theorem tb_iload0 {i : Nat} {x : Int32} (hd : decode k.2.1 pc = .ok (.iload i, 2)) (hp : pc + 2 = pc') (hx : L[i]? = some (some (.inl x))) (kk : tb_Wp E k d rc rs pc' L (.inl x :: S) M Q) : tb_Wp E k d rc rs pc L S M Q := by
  subst hp
  intro p e R s m args below meth c H locs cells slots mc ms ls C hl hH hS h1 h2 hR
  exact lv_iload C.1 C.2.1 hd (tb_at hl hx) (kk p e R s m args below meth c H locs cells slots mc ms ls C hl hH hS h1 h2 hR)
theorem tb_aloadn {j : Fin 4} {r : Nat} (hd : decode k.2.1 pc = .ok (.aload_n j, 1)) (hp : pc + 1 = pc') (hx : L[(j : Nat)]? = some (some (.inr r))) (kk : tb_Wp E k d rc rs pc' L (.inr (.inl r) :: S) M Q) : tb_Wp E k d rc rs pc L S M Q := by
  subst hp
  intro p e R s m args below meth c H locs cells slots mc ms ls C hl hH hS h1 h2 hR
  cases r with
  | zero => exact lv_aload_nN C.1 C.2.1 hd rfl (tb_at hl hx) (kk p e R s m args below meth c H locs cells slots mc ms ls C hl hH hS h1 h2 hR)
  | succ r => exact lv_aload_n C.1 C.2.1 hd rfl (tb_at hl hx) (kk p e R s m args below meth c H locs cells slots mc ms ls C hl hH hS h1 h2 hR)
theorem tb_aload0 {i : Nat} {r : Nat} (hd : decode k.2.1 pc = .ok (.aload i, 2)) (hp : pc + 2 = pc') (hx : L[i]? = some (some (.inr r))) (kk : tb_Wp E k d rc rs pc' L (.inr (.inl r) :: S) M Q) : tb_Wp E k d rc rs pc L S M Q := by
  subst hp
  intro p e R s m args below meth c H locs cells slots mc ms ls C hl hH hS h1 h2 hR
  cases r with
  | zero => exact lv_aloadN C.1 C.2.1 hd (tb_at hl hx) (kk p e R s m args below meth c H locs cells slots mc ms ls C hl hH hS h1 h2 hR)
  | succ r => exact lv_aload C.1 C.2.1 hd (tb_at hl hx) (kk p e R s m args below meth c H locs cells slots mc ms ls C hl hH hS h1 h2 hR)
theorem tb_istoren {j : Fin 4} {x : Int32} {L' : List tb_L} (hd : decode k.2.1 pc = .ok (.istore_n j, 1)) (hp : pc + 1 = pc') (hi : (j : Nat) < k.2.2.1) (hx : L.set (j : Nat) (some (.inl x)) = L') (kk : tb_Wp E k d rc rs pc' L' S M Q) : tb_Wp E k d rc rs pc L (.inl x :: S) M Q := by
  subst hp; subst hx
  intro p e R s m args below meth c H locs cells slots mc ms ls C hl hH hS h1 h2 hR
  exact lv_istore_n C.1 C.2.1 hd rfl hl hi rfl (fun ls' hl' => kk p e R s m args below meth c H locs cells slots mc ms ls' C (tb_stored hl') hH hS h1 h2 hR)
theorem tb_istore0 {i : Nat} {x : Int32} {L' : List tb_L} (hd : decode k.2.1 pc = .ok (.istore i, 2)) (hp : pc + 2 = pc') (hi : i < k.2.2.1) (hx : L.set i (some (.inl x)) = L') (kk : tb_Wp E k d rc rs pc' L' S M Q) : tb_Wp E k d rc rs pc L (.inl x :: S) M Q := by
  subst hp; subst hx
  intro p e R s m args below meth c H locs cells slots mc ms ls C hl hH hS h1 h2 hR
  exact lv_istore C.1 C.2.1 hd hl hi rfl (fun ls' hl' => kk p e R s m args below meth c H locs cells slots mc ms ls' C (tb_stored hl') hH hS h1 h2 hR)
theorem tb_astoren {j : Fin 4} {r : Nat} {L' : List tb_L} (hd : decode k.2.1 pc = .ok (.astore_n j, 1)) (hp : pc + 1 = pc') (hi : (j : Nat) < k.2.2.1) (hx : L.set (j : Nat) (some (.inr r)) = L') (kk : tb_Wp E k d rc rs pc' L' S M Q) : tb_Wp E k d rc rs pc L (.inr (.inl r) :: S) M Q := by
  subst hp; subst hx
  intro p e R s m args below meth c H locs cells slots mc ms ls C hl hH hS h1 h2 hR
  cases r with
  | zero => exact lv_astore_nN C.1 C.2.1 hd rfl hl hi rfl (fun ls' hl' => kk p e R s m args below meth c H locs cells slots mc ms ls' C (tb_stored hl') hH hS h1 h2 hR)
  | succ r => exact lv_astore_n C.1 C.2.1 hd rfl hl hi rfl (fun ls' hl' => kk p e R s m args below meth c H locs cells slots mc ms ls' C (tb_stored hl') hH hS h1 h2 hR)
theorem tb_astore0 {i : Nat} {r : Nat} {L' : List tb_L} (hd : decode k.2.1 pc = .ok (.astore i, 2)) (hp : pc + 2 = pc') (hi : i < k.2.2.1) (hx : L.set i (some (.inr r)) = L') (kk : tb_Wp E k d rc rs pc' L' S M Q) : tb_Wp E k d rc rs pc L (.inr (.inl r) :: S) M Q := by
  subst hp; subst hx
  intro p e R s m args below meth c H locs cells slots mc ms ls C hl hH hS h1 h2 hR
  cases r with
  | zero => exact lv_astoreN C.1 C.2.1 hd hl hi rfl (fun ls' hl' => kk p e R s m args below meth c H locs cells slots mc ms ls' C (tb_stored hl') hH hS h1 h2 hR)
  | succ r => exact lv_astore C.1 C.2.1 hd hl hi rfl (fun ls' hl' => kk p e R s m args below meth c H locs cells slots mc ms ls' C (tb_stored hl') hH hS h1 h2 hR)
theorem tb_iinc0 {i : Nat} {n : Int} {x : Int32} {L' : List tb_L} (v : Int32) (hd : decode k.2.1 pc = .ok (.iinc i n, 3)) (hp : pc + 3 = pc') (hi : i < k.2.2.1) (hg : L[i]? = some (some (.inl x))) (hv : Int32.ofInt n = v) (hx : L.set i (some (.inl (x + v))) = L') (kk : tb_Wp E k d rc rs pc' L' S M Q) : tb_Wp E k d rc rs pc L S M Q := by
  subst hp; subst hx; subst hv
  intro p e R s m args below meth c H locs cells slots mc ms ls C hl hH hS h1 h2 hR
  obtain ⟨z, hz⟩ := List.getElem?_of_mem ((tb_lv_mem E L 0 i _).mpr ⟨i, .inl x, hg, by omega, rfl⟩)
  exact lv_iinc C.1 C.2.1 hd hl hz rfl hi rfl (fun ls' hl' => kk p e R s m args below meth c H locs cells slots mc ms ls' C (tb_stored hl') hH hS h1 h2 hR)
theorem tb_iload_0 {x : Int32} {L : List tb_L} (hd : decode k.2.1 pc = .ok (.iload_n 0, 1)) (hp : pc + 1 = pc') (kk : tb_Wp E k d rc rs pc' (some (.inl x) :: L) (.inl x :: S) M Q) : tb_Wp E k d rc rs pc (some (.inl x) :: L) S M Q := tb_iloadn hd hp rfl kk
theorem tb_istore_0 {b : tb_L} {x : Int32} {L : List tb_L} (hd : decode k.2.1 pc = .ok (.istore_n 0, 1)) (hp : pc + 1 = pc') (hi : 0 < k.2.2.1) (kk : tb_Wp E k d rc rs pc' (some (.inl x) :: L) S M Q) : tb_Wp E k d rc rs pc (b :: L) (.inl x :: S) M Q := tb_istoren hd hp hi rfl kk
theorem tb_aload_0 {x : Nat} {L : List tb_L} (hd : decode k.2.1 pc = .ok (.aload_n 0, 1)) (hp : pc + 1 = pc') (kk : tb_Wp E k d rc rs pc' (some (.inr x) :: L) (.inr (.inl x) :: S) M Q) : tb_Wp E k d rc rs pc (some (.inr x) :: L) S M Q := tb_aloadn hd hp rfl kk
theorem tb_astore_0 {b : tb_L} {x : Nat} {L : List tb_L} (hd : decode k.2.1 pc = .ok (.astore_n 0, 1)) (hp : pc + 1 = pc') (hi : 0 < k.2.2.1) (kk : tb_Wp E k d rc rs pc' (some (.inr x) :: L) S M Q) : tb_Wp E k d rc rs pc (b :: L) (.inr (.inl x) :: S) M Q := tb_astoren hd hp hi rfl kk
theorem tb_iinc_0 {n : Int} {x : Int32} {L : List tb_L} (v : Int32) (hd : decode k.2.1 pc = .ok (.iinc 0 n, 3)) (hp : pc + 3 = pc') (hi : 0 < k.2.2.1) (hv : Int32.ofInt n = v) (kk : tb_Wp E k d rc rs pc' (some (.inl (x + v)) :: L) S M Q) : tb_Wp E k d rc rs pc (some (.inl x) :: L) S M Q := tb_iinc0 v hd hp hi rfl hv rfl kk
theorem tb_iload_1 {a0 : tb_L} {x : Int32} {L : List tb_L} (hd : decode k.2.1 pc = .ok (.iload_n 1, 1)) (hp : pc + 1 = pc') (kk : tb_Wp E k d rc rs pc' (a0 :: some (.inl x) :: L) (.inl x :: S) M Q) : tb_Wp E k d rc rs pc (a0 :: some (.inl x) :: L) S M Q := tb_iloadn hd hp rfl kk
theorem tb_istore_1 {a0 : tb_L} {b : tb_L} {x : Int32} {L : List tb_L} (hd : decode k.2.1 pc = .ok (.istore_n 1, 1)) (hp : pc + 1 = pc') (hi : 1 < k.2.2.1) (kk : tb_Wp E k d rc rs pc' (a0 :: some (.inl x) :: L) S M Q) : tb_Wp E k d rc rs pc (a0 :: b :: L) (.inl x :: S) M Q := tb_istoren hd hp hi rfl kk
theorem tb_aload_1 {a0 : tb_L} {x : Nat} {L : List tb_L} (hd : decode k.2.1 pc = .ok (.aload_n 1, 1)) (hp : pc + 1 = pc') (kk : tb_Wp E k d rc rs pc' (a0 :: some (.inr x) :: L) (.inr (.inl x) :: S) M Q) : tb_Wp E k d rc rs pc (a0 :: some (.inr x) :: L) S M Q := tb_aloadn hd hp rfl kk
theorem tb_astore_1 {a0 : tb_L} {b : tb_L} {x : Nat} {L : List tb_L} (hd : decode k.2.1 pc = .ok (.astore_n 1, 1)) (hp : pc + 1 = pc') (hi : 1 < k.2.2.1) (kk : tb_Wp E k d rc rs pc' (a0 :: some (.inr x) :: L) S M Q) : tb_Wp E k d rc rs pc (a0 :: b :: L) (.inr (.inl x) :: S) M Q := tb_astoren hd hp hi rfl kk
theorem tb_iinc_1 {a0 : tb_L} {n : Int} {x : Int32} {L : List tb_L} (v : Int32) (hd : decode k.2.1 pc = .ok (.iinc 1 n, 3)) (hp : pc + 3 = pc') (hi : 1 < k.2.2.1) (hv : Int32.ofInt n = v) (kk : tb_Wp E k d rc rs pc' (a0 :: some (.inl (x + v)) :: L) S M Q) : tb_Wp E k d rc rs pc (a0 :: some (.inl x) :: L) S M Q := tb_iinc0 v hd hp hi rfl hv rfl kk
theorem tb_iload_2 {a0 a1 : tb_L} {x : Int32} {L : List tb_L} (hd : decode k.2.1 pc = .ok (.iload_n 2, 1)) (hp : pc + 1 = pc') (kk : tb_Wp E k d rc rs pc' (a0 :: a1 :: some (.inl x) :: L) (.inl x :: S) M Q) : tb_Wp E k d rc rs pc (a0 :: a1 :: some (.inl x) :: L) S M Q := tb_iloadn hd hp rfl kk
theorem tb_istore_2 {a0 a1 : tb_L} {b : tb_L} {x : Int32} {L : List tb_L} (hd : decode k.2.1 pc = .ok (.istore_n 2, 1)) (hp : pc + 1 = pc') (hi : 2 < k.2.2.1) (kk : tb_Wp E k d rc rs pc' (a0 :: a1 :: some (.inl x) :: L) S M Q) : tb_Wp E k d rc rs pc (a0 :: a1 :: b :: L) (.inl x :: S) M Q := tb_istoren hd hp hi rfl kk
theorem tb_aload_2 {a0 a1 : tb_L} {x : Nat} {L : List tb_L} (hd : decode k.2.1 pc = .ok (.aload_n 2, 1)) (hp : pc + 1 = pc') (kk : tb_Wp E k d rc rs pc' (a0 :: a1 :: some (.inr x) :: L) (.inr (.inl x) :: S) M Q) : tb_Wp E k d rc rs pc (a0 :: a1 :: some (.inr x) :: L) S M Q := tb_aloadn hd hp rfl kk
theorem tb_astore_2 {a0 a1 : tb_L} {b : tb_L} {x : Nat} {L : List tb_L} (hd : decode k.2.1 pc = .ok (.astore_n 2, 1)) (hp : pc + 1 = pc') (hi : 2 < k.2.2.1) (kk : tb_Wp E k d rc rs pc' (a0 :: a1 :: some (.inr x) :: L) S M Q) : tb_Wp E k d rc rs pc (a0 :: a1 :: b :: L) (.inr (.inl x) :: S) M Q := tb_astoren hd hp hi rfl kk
theorem tb_iinc_2 {a0 a1 : tb_L} {n : Int} {x : Int32} {L : List tb_L} (v : Int32) (hd : decode k.2.1 pc = .ok (.iinc 2 n, 3)) (hp : pc + 3 = pc') (hi : 2 < k.2.2.1) (hv : Int32.ofInt n = v) (kk : tb_Wp E k d rc rs pc' (a0 :: a1 :: some (.inl (x + v)) :: L) S M Q) : tb_Wp E k d rc rs pc (a0 :: a1 :: some (.inl x) :: L) S M Q := tb_iinc0 v hd hp hi rfl hv rfl kk
theorem tb_iload_3 {a0 a1 a2 : tb_L} {x : Int32} {L : List tb_L} (hd : decode k.2.1 pc = .ok (.iload_n 3, 1)) (hp : pc + 1 = pc') (kk : tb_Wp E k d rc rs pc' (a0 :: a1 :: a2 :: some (.inl x) :: L) (.inl x :: S) M Q) : tb_Wp E k d rc rs pc (a0 :: a1 :: a2 :: some (.inl x) :: L) S M Q := tb_iloadn hd hp rfl kk
theorem tb_istore_3 {a0 a1 a2 : tb_L} {b : tb_L} {x : Int32} {L : List tb_L} (hd : decode k.2.1 pc = .ok (.istore_n 3, 1)) (hp : pc + 1 = pc') (hi : 3 < k.2.2.1) (kk : tb_Wp E k d rc rs pc' (a0 :: a1 :: a2 :: some (.inl x) :: L) S M Q) : tb_Wp E k d rc rs pc (a0 :: a1 :: a2 :: b :: L) (.inl x :: S) M Q := tb_istoren hd hp hi rfl kk
theorem tb_aload_3 {a0 a1 a2 : tb_L} {x : Nat} {L : List tb_L} (hd : decode k.2.1 pc = .ok (.aload_n 3, 1)) (hp : pc + 1 = pc') (kk : tb_Wp E k d rc rs pc' (a0 :: a1 :: a2 :: some (.inr x) :: L) (.inr (.inl x) :: S) M Q) : tb_Wp E k d rc rs pc (a0 :: a1 :: a2 :: some (.inr x) :: L) S M Q := tb_aloadn hd hp rfl kk
theorem tb_astore_3 {a0 a1 a2 : tb_L} {b : tb_L} {x : Nat} {L : List tb_L} (hd : decode k.2.1 pc = .ok (.astore_n 3, 1)) (hp : pc + 1 = pc') (hi : 3 < k.2.2.1) (kk : tb_Wp E k d rc rs pc' (a0 :: a1 :: a2 :: some (.inr x) :: L) S M Q) : tb_Wp E k d rc rs pc (a0 :: a1 :: a2 :: b :: L) (.inr (.inl x) :: S) M Q := tb_astoren hd hp hi rfl kk
theorem tb_iinc_3 {a0 a1 a2 : tb_L} {n : Int} {x : Int32} {L : List tb_L} (v : Int32) (hd : decode k.2.1 pc = .ok (.iinc 3 n, 3)) (hp : pc + 3 = pc') (hi : 3 < k.2.2.1) (hv : Int32.ofInt n = v) (kk : tb_Wp E k d rc rs pc' (a0 :: a1 :: a2 :: some (.inl (x + v)) :: L) S M Q) : tb_Wp E k d rc rs pc (a0 :: a1 :: a2 :: some (.inl x) :: L) S M Q := tb_iinc0 v hd hp hi rfl hv rfl kk
theorem tb_iload_4 {a0 a1 a2 a3 : tb_L} {x : Int32} {L : List tb_L} (hd : decode k.2.1 pc = .ok (.iload 4, 2)) (hp : pc + 2 = pc') (kk : tb_Wp E k d rc rs pc' (a0 :: a1 :: a2 :: a3 :: some (.inl x) :: L) (.inl x :: S) M Q) : tb_Wp E k d rc rs pc (a0 :: a1 :: a2 :: a3 :: some (.inl x) :: L) S M Q := tb_iload0 hd hp rfl kk
theorem tb_istore_4 {a0 a1 a2 a3 : tb_L} {b : tb_L} {x : Int32} {L : List tb_L} (hd : decode k.2.1 pc = .ok (.istore 4, 2)) (hp : pc + 2 = pc') (hi : 4 < k.2.2.1) (kk : tb_Wp E k d rc rs pc' (a0 :: a1 :: a2 :: a3 :: some (.inl x) :: L) S M Q) : tb_Wp E k d rc rs pc (a0 :: a1 :: a2 :: a3 :: b :: L) (.inl x :: S) M Q := tb_istore0 hd hp hi rfl kk
theorem tb_aload_4 {a0 a1 a2 a3 : tb_L} {x : Nat} {L : List tb_L} (hd : decode k.2.1 pc = .ok (.aload 4, 2)) (hp : pc + 2 = pc') (kk : tb_Wp E k d rc rs pc' (a0 :: a1 :: a2 :: a3 :: some (.inr x) :: L) (.inr (.inl x) :: S) M Q) : tb_Wp E k d rc rs pc (a0 :: a1 :: a2 :: a3 :: some (.inr x) :: L) S M Q := tb_aload0 hd hp rfl kk
theorem tb_astore_4 {a0 a1 a2 a3 : tb_L} {b : tb_L} {x : Nat} {L : List tb_L} (hd : decode k.2.1 pc = .ok (.astore 4, 2)) (hp : pc + 2 = pc') (hi : 4 < k.2.2.1) (kk : tb_Wp E k d rc rs pc' (a0 :: a1 :: a2 :: a3 :: some (.inr x) :: L) S M Q) : tb_Wp E k d rc rs pc (a0 :: a1 :: a2 :: a3 :: b :: L) (.inr (.inl x) :: S) M Q := tb_astore0 hd hp hi rfl kk
theorem tb_iinc_4 {a0 a1 a2 a3 : tb_L} {n : Int} {x : Int32} {L : List tb_L} (v : Int32) (hd : decode k.2.1 pc = .ok (.iinc 4 n, 3)) (hp : pc + 3 = pc') (hi : 4 < k.2.2.1) (hv : Int32.ofInt n = v) (kk : tb_Wp E k d rc rs pc' (a0 :: a1 :: a2 :: a3 :: some (.inl (x + v)) :: L) S M Q) : tb_Wp E k d rc rs pc (a0 :: a1 :: a2 :: a3 :: some (.inl x) :: L) S M Q := tb_iinc0 v hd hp hi rfl hv rfl kk
theorem tb_iload_5 {a0 a1 a2 a3 a4 : tb_L} {x : Int32} {L : List tb_L} (hd : decode k.2.1 pc = .ok (.iload 5, 2)) (hp : pc + 2 = pc') (kk : tb_Wp E k d rc rs pc' (a0 :: a1 :: a2 :: a3 :: a4 :: some (.inl x) :: L) (.inl x :: S) M Q) : tb_Wp E k d rc rs pc (a0 :: a1 :: a2 :: a3 :: a4 :: some (.inl x) :: L) S M Q := tb_iload0 hd hp rfl kk
theorem tb_istore_5 {a0 a1 a2 a3 a4 : tb_L} {b : tb_L} {x : Int32} {L : List tb_L} (hd : decode k.2.1 pc = .ok (.istore 5, 2)) (hp : pc + 2 = pc') (hi : 5 < k.2.2.1) (kk : tb_Wp E k d rc rs pc' (a0 :: a1 :: a2 :: a3 :: a4 :: some (.inl x) :: L) S M Q) : tb_Wp E k d rc rs pc (a0 :: a1 :: a2 :: a3 :: a4 :: b :: L) (.inl x :: S) M Q := tb_istore0 hd hp hi rfl kk
theorem tb_aload_5 {a0 a1 a2 a3 a4 : tb_L} {x : Nat} {L : List tb_L} (hd : decode k.2.1 pc = .ok (.aload 5, 2)) (hp : pc + 2 = pc') (kk : tb_Wp E k d rc rs pc' (a0 :: a1 :: a2 :: a3 :: a4 :: some (.inr x) :: L) (.inr (.inl x) :: S) M Q) : tb_Wp E k d rc rs pc (a0 :: a1 :: a2 :: a3 :: a4 :: some (.inr x) :: L) S M Q := tb_aload0 hd hp rfl kk
theorem tb_astore_5 {a0 a1 a2 a3 a4 : tb_L} {b : tb_L} {x : Nat} {L : List tb_L} (hd : decode k.2.1 pc = .ok (.astore 5, 2)) (hp : pc + 2 = pc') (hi : 5 < k.2.2.1) (kk : tb_Wp E k d rc rs pc' (a0 :: a1 :: a2 :: a3 :: a4 :: some (.inr x) :: L) S M Q) : tb_Wp E k d rc rs pc (a0 :: a1 :: a2 :: a3 :: a4 :: b :: L) (.inr (.inl x) :: S) M Q := tb_astore0 hd hp hi rfl kk
theorem tb_iinc_5 {a0 a1 a2 a3 a4 : tb_L} {n : Int} {x : Int32} {L : List tb_L} (v : Int32) (hd : decode k.2.1 pc = .ok (.iinc 5 n, 3)) (hp : pc + 3 = pc') (hi : 5 < k.2.2.1) (hv : Int32.ofInt n = v) (kk : tb_Wp E k d rc rs pc' (a0 :: a1 :: a2 :: a3 :: a4 :: some (.inl (x + v)) :: L) S M Q) : tb_Wp E k d rc rs pc (a0 :: a1 :: a2 :: a3 :: a4 :: some (.inl x) :: L) S M Q := tb_iinc0 v hd hp hi rfl hv rfl kk
theorem tb_iload_6 {a0 a1 a2 a3 a4 a5 : tb_L} {x : Int32} {L : List tb_L} (hd : decode k.2.1 pc = .ok (.iload 6, 2)) (hp : pc + 2 = pc') (kk : tb_Wp E k d rc rs pc' (a0 :: a1 :: a2 :: a3 :: a4 :: a5 :: some (.inl x) :: L) (.inl x :: S) M Q) : tb_Wp E k d rc rs pc (a0 :: a1 :: a2 :: a3 :: a4 :: a5 :: some (.inl x) :: L) S M Q := tb_iload0 hd hp rfl kk
theorem tb_istore_6 {a0 a1 a2 a3 a4 a5 : tb_L} {b : tb_L} {x : Int32} {L : List tb_L} (hd : decode k.2.1 pc = .ok (.istore 6, 2)) (hp : pc + 2 = pc') (hi : 6 < k.2.2.1) (kk : tb_Wp E k d rc rs pc' (a0 :: a1 :: a2 :: a3 :: a4 :: a5 :: some (.inl x) :: L) S M Q) : tb_Wp E k d rc rs pc (a0 :: a1 :: a2 :: a3 :: a4 :: a5 :: b :: L) (.inl x :: S) M Q := tb_istore0 hd hp hi rfl kk
theorem tb_aload_6 {a0 a1 a2 a3 a4 a5 : tb_L} {x : Nat} {L : List tb_L} (hd : decode k.2.1 pc = .ok (.aload 6, 2)) (hp : pc + 2 = pc') (kk : tb_Wp E k d rc rs pc' (a0 :: a1 :: a2 :: a3 :: a4 :: a5 :: some (.inr x) :: L) (.inr (.inl x) :: S) M Q) : tb_Wp E k d rc rs pc (a0 :: a1 :: a2 :: a3 :: a4 :: a5 :: some (.inr x) :: L) S M Q := tb_aload0 hd hp rfl kk
theorem tb_astore_6 {a0 a1 a2 a3 a4 a5 : tb_L} {b : tb_L} {x : Nat} {L : List tb_L} (hd : decode k.2.1 pc = .ok (.astore 6, 2)) (hp : pc + 2 = pc') (hi : 6 < k.2.2.1) (kk : tb_Wp E k d rc rs pc' (a0 :: a1 :: a2 :: a3 :: a4 :: a5 :: some (.inr x) :: L) S M Q) : tb_Wp E k d rc rs pc (a0 :: a1 :: a2 :: a3 :: a4 :: a5 :: b :: L) (.inr (.inl x) :: S) M Q := tb_astore0 hd hp hi rfl kk
theorem tb_iinc_6 {a0 a1 a2 a3 a4 a5 : tb_L} {n : Int} {x : Int32} {L : List tb_L} (v : Int32) (hd : decode k.2.1 pc = .ok (.iinc 6 n, 3)) (hp : pc + 3 = pc') (hi : 6 < k.2.2.1) (hv : Int32.ofInt n = v) (kk : tb_Wp E k d rc rs pc' (a0 :: a1 :: a2 :: a3 :: a4 :: a5 :: some (.inl (x + v)) :: L) S M Q) : tb_Wp E k d rc rs pc (a0 :: a1 :: a2 :: a3 :: a4 :: a5 :: some (.inl x) :: L) S M Q := tb_iinc0 v hd hp hi rfl hv rfl kk
theorem tb_iload_7 {a0 a1 a2 a3 a4 a5 a6 : tb_L} {x : Int32} {L : List tb_L} (hd : decode k.2.1 pc = .ok (.iload 7, 2)) (hp : pc + 2 = pc') (kk : tb_Wp E k d rc rs pc' (a0 :: a1 :: a2 :: a3 :: a4 :: a5 :: a6 :: some (.inl x) :: L) (.inl x :: S) M Q) : tb_Wp E k d rc rs pc (a0 :: a1 :: a2 :: a3 :: a4 :: a5 :: a6 :: some (.inl x) :: L) S M Q := tb_iload0 hd hp rfl kk
theorem tb_istore_7 {a0 a1 a2 a3 a4 a5 a6 : tb_L} {b : tb_L} {x : Int32} {L : List tb_L} (hd : decode k.2.1 pc = .ok (.istore 7, 2)) (hp : pc + 2 = pc') (hi : 7 < k.2.2.1) (kk : tb_Wp E k d rc rs pc' (a0 :: a1 :: a2 :: a3 :: a4 :: a5 :: a6 :: some (.inl x) :: L) S M Q) : tb_Wp E k d rc rs pc (a0 :: a1 :: a2 :: a3 :: a4 :: a5 :: a6 :: b :: L) (.inl x :: S) M Q := tb_istore0 hd hp hi rfl kk
theorem tb_aload_7 {a0 a1 a2 a3 a4 a5 a6 : tb_L} {x : Nat} {L : List tb_L} (hd : decode k.2.1 pc = .ok (.aload 7, 2)) (hp : pc + 2 = pc') (kk : tb_Wp E k d rc rs pc' (a0 :: a1 :: a2 :: a3 :: a4 :: a5 :: a6 :: some (.inr x) :: L) (.inr (.inl x) :: S) M Q) : tb_Wp E k d rc rs pc (a0 :: a1 :: a2 :: a3 :: a4 :: a5 :: a6 :: some (.inr x) :: L) S M Q := tb_aload0 hd hp rfl kk
theorem tb_astore_7 {a0 a1 a2 a3 a4 a5 a6 : tb_L} {b : tb_L} {x : Nat} {L : List tb_L} (hd : decode k.2.1 pc = .ok (.astore 7, 2)) (hp : pc + 2 = pc') (hi : 7 < k.2.2.1) (kk : tb_Wp E k d rc rs pc' (a0 :: a1 :: a2 :: a3 :: a4 :: a5 :: a6 :: some (.inr x) :: L) S M Q) : tb_Wp E k d rc rs pc (a0 :: a1 :: a2 :: a3 :: a4 :: a5 :: a6 :: b :: L) (.inr (.inl x) :: S) M Q := tb_astore0 hd hp hi rfl kk
theorem tb_iinc_7 {a0 a1 a2 a3 a4 a5 a6 : tb_L} {n : Int} {x : Int32} {L : List tb_L} (v : Int32) (hd : decode k.2.1 pc = .ok (.iinc 7 n, 3)) (hp : pc + 3 = pc') (hi : 7 < k.2.2.1) (hv : Int32.ofInt n = v) (kk : tb_Wp E k d rc rs pc' (a0 :: a1 :: a2 :: a3 :: a4 :: a5 :: a6 :: some (.inl (x + v)) :: L) S M Q) : tb_Wp E k d rc rs pc (a0 :: a1 :: a2 :: a3 :: a4 :: a5 :: a6 :: some (.inl x) :: L) S M Q := tb_iinc0 v hd hp hi rfl hv rfl kk
theorem tb_iload_8 {a0 a1 a2 a3 a4 a5 a6 a7 : tb_L} {x : Int32} {L : List tb_L} (hd : decode k.2.1 pc = .ok (.iload 8, 2)) (hp : pc + 2 = pc') (kk : tb_Wp E k d rc rs pc' (a0 :: a1 :: a2 :: a3 :: a4 :: a5 :: a6 :: a7 :: some (.inl x) :: L) (.inl x :: S) M Q) : tb_Wp E k d rc rs pc (a0 :: a1 :: a2 :: a3 :: a4 :: a5 :: a6 :: a7 :: some (.inl x) :: L) S M Q := tb_iload0 hd hp rfl kk
theorem tb_istore_8 {a0 a1 a2 a3 a4 a5 a6 a7 : tb_L} {b : tb_L} {x : Int32} {L : List tb_L} (hd : decode k.2.1 pc = .ok (.istore 8, 2)) (hp : pc + 2 = pc') (hi : 8 < k.2.2.1) (kk : tb_Wp E k d rc rs pc' (a0 :: a1 :: a2 :: a3 :: a4 :: a5 :: a6 :: a7 :: some (.inl x) :: L) S M Q) : tb_Wp E k d rc rs pc (a0 :: a1 :: a2 :: a3 :: a4 :: a5 :: a6 :: a7 :: b :: L) (.inl x :: S) M Q := tb_istore0 hd hp hi rfl kk
theorem tb_aload_8 {a0 a1 a2 a3 a4 a5 a6 a7 : tb_L} {x : Nat} {L : List tb_L} (hd : decode k.2.1 pc = .ok (.aload 8, 2)) (hp : pc + 2 = pc') (kk : tb_Wp E k d rc rs pc' (a0 :: a1 :: a2 :: a3 :: a4 :: a5 :: a6 :: a7 :: some (.inr x) :: L) (.inr (.inl x) :: S) M Q) : tb_Wp E k d rc rs pc (a0 :: a1 :: a2 :: a3 :: a4 :: a5 :: a6 :: a7 :: some (.inr x) :: L) S M Q := tb_aload0 hd hp rfl kk
theorem tb_astore_8 {a0 a1 a2 a3 a4 a5 a6 a7 : tb_L} {b : tb_L} {x : Nat} {L : List tb_L} (hd : decode k.2.1 pc = .ok (.astore 8, 2)) (hp : pc + 2 = pc') (hi : 8 < k.2.2.1) (kk : tb_Wp E k d rc rs pc' (a0 :: a1 :: a2 :: a3 :: a4 :: a5 :: a6 :: a7 :: some (.inr x) :: L) S M Q) : tb_Wp E k d rc rs pc (a0 :: a1 :: a2 :: a3 :: a4 :: a5 :: a6 :: a7 :: b :: L) (.inr (.inl x) :: S) M Q := tb_astore0 hd hp hi rfl kk
theorem tb_iinc_8 {a0 a1 a2 a3 a4 a5 a6 a7 : tb_L} {n : Int} {x : Int32} {L : List tb_L} (v : Int32) (hd : decode k.2.1 pc = .ok (.iinc 8 n, 3)) (hp : pc + 3 = pc') (hi : 8 < k.2.2.1) (hv : Int32.ofInt n = v) (kk : tb_Wp E k d rc rs pc' (a0 :: a1 :: a2 :: a3 :: a4 :: a5 :: a6 :: a7 :: some (.inl (x + v)) :: L) S M Q) : tb_Wp E k d rc rs pc (a0 :: a1 :: a2 :: a3 :: a4 :: a5 :: a6 :: a7 :: some (.inl x) :: L) S M Q := tb_iinc0 v hd hp hi rfl hv rfl kk
theorem tb_iload_9 {a0 a1 a2 a3 a4 a5 a6 a7 a8 : tb_L} {x : Int32} {L : List tb_L} (hd : decode k.2.1 pc = .ok (.iload 9, 2)) (hp : pc + 2 = pc') (kk : tb_Wp E k d rc rs pc' (a0 :: a1 :: a2 :: a3 :: a4 :: a5 :: a6 :: a7 :: a8 :: some (.inl x) :: L) (.inl x :: S) M Q) : tb_Wp E k d rc rs pc (a0 :: a1 :: a2 :: a3 :: a4 :: a5 :: a6 :: a7 :: a8 :: some (.inl x) :: L) S M Q := tb_iload0 hd hp rfl kk
theorem tb_istore_9 {a0 a1 a2 a3 a4 a5 a6 a7 a8 : tb_L} {b : tb_L} {x : Int32} {L : List tb_L} (hd : decode k.2.1 pc = .ok (.istore 9, 2)) (hp : pc + 2 = pc') (hi : 9 < k.2.2.1) (kk : tb_Wp E k d rc rs pc' (a0 :: a1 :: a2 :: a3 :: a4 :: a5 :: a6 :: a7 :: a8 :: some (.inl x) :: L) S M Q) : tb_Wp E k d rc rs pc (a0 :: a1 :: a2 :: a3 :: a4 :: a5 :: a6 :: a7 :: a8 :: b :: L) (.inl x :: S) M Q := tb_istore0 hd hp hi rfl kk
theorem tb_aload_9 {a0 a1 a2 a3 a4 a5 a6 a7 a8 : tb_L} {x : Nat} {L : List tb_L} (hd : decode k.2.1 pc = .ok (.aload 9, 2)) (hp : pc + 2 = pc') (kk : tb_Wp E k d rc rs pc' (a0 :: a1 :: a2 :: a3 :: a4 :: a5 :: a6 :: a7 :: a8 :: some (.inr x) :: L) (.inr (.inl x) :: S) M Q) : tb_Wp E k d rc rs pc (a0 :: a1 :: a2 :: a3 :: a4 :: a5 :: a6 :: a7 :: a8 :: some (.inr x) :: L) S M Q := tb_aload0 hd hp rfl kk
theorem tb_astore_9 {a0 a1 a2 a3 a4 a5 a6 a7 a8 : tb_L} {b : tb_L} {x : Nat} {L : List tb_L} (hd : decode k.2.1 pc = .ok (.astore 9, 2)) (hp : pc + 2 = pc') (hi : 9 < k.2.2.1) (kk : tb_Wp E k d rc rs pc' (a0 :: a1 :: a2 :: a3 :: a4 :: a5 :: a6 :: a7 :: a8 :: some (.inr x) :: L) S M Q) : tb_Wp E k d rc rs pc (a0 :: a1 :: a2 :: a3 :: a4 :: a5 :: a6 :: a7 :: a8 :: b :: L) (.inr (.inl x) :: S) M Q := tb_astore0 hd hp hi rfl kk
theorem tb_iinc_9 {a0 a1 a2 a3 a4 a5 a6 a7 a8 : tb_L} {n : Int} {x : Int32} {L : List tb_L} (v : Int32) (hd : decode k.2.1 pc = .ok (.iinc 9 n, 3)) (hp : pc + 3 = pc') (hi : 9 < k.2.2.1) (hv : Int32.ofInt n = v) (kk : tb_Wp E k d rc rs pc' (a0 :: a1 :: a2 :: a3 :: a4 :: a5 :: a6 :: a7 :: a8 :: some (.inl (x + v)) :: L) S M Q) : tb_Wp E k d rc rs pc (a0 :: a1 :: a2 :: a3 :: a4 :: a5 :: a6 :: a7 :: a8 :: some (.inl x) :: L) S M Q := tb_iinc0 v hd hp hi rfl hv rfl kk
theorem tb_iload_10 {a0 a1 a2 a3 a4 a5 a6 a7 a8 a9 : tb_L} {x : Int32} {L : List tb_L} (hd : decode k.2.1 pc = .ok (.iload 10, 2)) (hp : pc + 2 = pc') (kk : tb_Wp E k d rc rs pc' (a0 :: a1 :: a2 :: a3 :: a4 :: a5 :: a6 :: a7 :: a8 :: a9 :: some (.inl x) :: L) (.inl x :: S) M Q) : tb_Wp E k d rc rs pc (a0 :: a1 :: a2 :: a3 :: a4 :: a5 :: a6 :: a7 :: a8 :: a9 :: some (.inl x) :: L) S M Q := tb_iload0 hd hp rfl kk
theorem tb_istore_10 {a0 a1 a2 a3 a4 a5 a6 a7 a8 a9 : tb_L} {b : tb_L} {x : Int32} {L : List tb_L} (hd : decode k.2.1 pc = .ok (.istore 10, 2)) (hp : pc + 2 = pc') (hi : 10 < k.2.2.1) (kk : tb_Wp E k d rc rs pc' (a0 :: a1 :: a2 :: a3 :: a4 :: a5 :: a6 :: a7 :: a8 :: a9 :: some (.inl x) :: L) S M Q) : tb_Wp E k d rc rs pc (a0 :: a1 :: a2 :: a3 :: a4 :: a5 :: a6 :: a7 :: a8 :: a9 :: b :: L) (.inl x :: S) M Q := tb_istore0 hd hp hi rfl kk
theorem tb_aload_10 {a0 a1 a2 a3 a4 a5 a6 a7 a8 a9 : tb_L} {x : Nat} {L : List tb_L} (hd : decode k.2.1 pc = .ok (.aload 10, 2)) (hp : pc + 2 = pc') (kk : tb_Wp E k d rc rs pc' (a0 :: a1 :: a2 :: a3 :: a4 :: a5 :: a6 :: a7 :: a8 :: a9 :: some (.inr x) :: L) (.inr (.inl x) :: S) M Q) : tb_Wp E k d rc rs pc (a0 :: a1 :: a2 :: a3 :: a4 :: a5 :: a6 :: a7 :: a8 :: a9 :: some (.inr x) :: L) S M Q := tb_aload0 hd hp rfl kk
theorem tb_astore_10 {a0 a1 a2 a3 a4 a5 a6 a7 a8 a9 : tb_L} {b : tb_L} {x : Nat} {L : List tb_L} (hd : decode k.2.1 pc = .ok (.astore 10, 2)) (hp : pc + 2 = pc') (hi : 10 < k.2.2.1) (kk : tb_Wp E k d rc rs pc' (a0 :: a1 :: a2 :: a3 :: a4 :: a5 :: a6 :: a7 :: a8 :: a9 :: some (.inr x) :: L) S M Q) : tb_Wp E k d rc rs pc (a0 :: a1 :: a2 :: a3 :: a4 :: a5 :: a6 :: a7 :: a8 :: a9 :: b :: L) (.inr (.inl x) :: S) M Q := tb_astore0 hd hp hi rfl kk
theorem tb_iinc_10 {a0 a1 a2 a3 a4 a5 a6 a7 a8 a9 : tb_L} {n : Int} {x : Int32} {L : List tb_L} (v : Int32) (hd : decode k.2.1 pc = .ok (.iinc 10 n, 3)) (hp : pc + 3 = pc') (hi : 10 < k.2.2.1) (hv : Int32.ofInt n = v) (kk : tb_Wp E k d rc rs pc' (a0 :: a1 :: a2 :: a3 :: a4 :: a5 :: a6 :: a7 :: a8 :: a9 :: some (.inl (x + v)) :: L) S M Q) : tb_Wp E k d rc rs pc (a0 :: a1 :: a2 :: a3 :: a4 :: a5 :: a6 :: a7 :: a8 :: a9 :: some (.inl x) :: L) S M Q := tb_iinc0 v hd hp hi rfl hv rfl kk
theorem tb_iload_11 {a0 a1 a2 a3 a4 a5 a6 a7 a8 a9 a10 : tb_L} {x : Int32} {L : List tb_L} (hd : decode k.2.1 pc = .ok (.iload 11, 2)) (hp : pc + 2 = pc') (kk : tb_Wp E k d rc rs pc' (a0 :: a1 :: a2 :: a3 :: a4 :: a5 :: a6 :: a7 :: a8 :: a9 :: a10 :: some (.inl x) :: L) (.inl x :: S) M Q) : tb_Wp E k d rc rs pc (a0 :: a1 :: a2 :: a3 :: a4 :: a5 :: a6 :: a7 :: a8 :: a9 :: a10 :: some (.inl x) :: L) S M Q := tb_iload0 hd hp rfl kk
theorem tb_istore_11 {a0 a1 a2 a3 a4 a5 a6 a7 a8 a9 a10 : tb_L} {b : tb_L} {x : Int32} {L : List tb_L} (hd : decode k.2.1 pc = .ok (.istore 11, 2)) (hp : pc + 2 = pc') (hi : 11 < k.2.2.1) (kk : tb_Wp E k d rc rs pc' (a0 :: a1 :: a2 :: a3 :: a4 :: a5 :: a6 :: a7 :: a8 :: a9 :: a10 :: some (.inl x) :: L) S M Q) : tb_Wp E k d rc rs pc (a0 :: a1 :: a2 :: a3 :: a4 :: a5 :: a6 :: a7 :: a8 :: a9 :: a10 :: b :: L) (.inl x :: S) M Q := tb_istore0 hd hp hi rfl kk
theorem tb_aload_11 {a0 a1 a2 a3 a4 a5 a6 a7 a8 a9 a10 : tb_L} {x : Nat} {L : List tb_L} (hd : decode k.2.1 pc = .ok (.aload 11, 2)) (hp : pc + 2 = pc') (kk : tb_Wp E k d rc rs pc' (a0 :: a1 :: a2 :: a3 :: a4 :: a5 :: a6 :: a7 :: a8 :: a9 :: a10 :: some (.inr x) :: L) (.inr (.inl x) :: S) M Q) : tb_Wp E k d rc rs pc (a0 :: a1 :: a2 :: a3 :: a4 :: a5 :: a6 :: a7 :: a8 :: a9 :: a10 :: some (.inr x) :: L) S M Q := tb_aload0 hd hp rfl kk
theorem tb_astore_11 {a0 a1 a2 a3 a4 a5 a6 a7 a8 a9 a10 : tb_L} {b : tb_L} {x : Nat} {L : List tb_L} (hd : decode k.2.1 pc = .ok (.astore 11, 2)) (hp : pc + 2 = pc') (hi : 11 < k.2.2.1) (kk : tb_Wp E k d rc rs pc' (a0 :: a1 :: a2 :: a3 :: a4 :: a5 :: a6 :: a7 :: a8 :: a9 :: a10 :: some (.inr x) :: L) S M Q) : tb_Wp E k d rc rs pc (a0 :: a1 :: a2 :: a3 :: a4 :: a5 :: a6 :: a7 :: a8 :: a9 :: a10 :: b :: L) (.inr (.inl x) :: S) M Q := tb_astore0 hd hp hi rfl kk
theorem tb_iinc_11 {a0 a1 a2 a3 a4 a5 a6 a7 a8 a9 a10 : tb_L} {n : Int} {x : Int32} {L : List tb_L} (v : Int32) (hd : decode k.2.1 pc = .ok (.iinc 11 n, 3)) (hp : pc + 3 = pc') (hi : 11 < k.2.2.1) (hv : Int32.ofInt n = v) (kk : tb_Wp E k d rc rs pc' (a0 :: a1 :: a2 :: a3 :: a4 :: a5 :: a6 :: a7 :: a8 :: a9 :: a10 :: some (.inl (x + v)) :: L) S M Q) : tb_Wp E k d rc rs pc (a0 :: a1 :: a2 :: a3 :: a4 :: a5 :: a6 :: a7 :: a8 :: a9 :: a10 :: some (.inl x) :: L) S M Q := tb_iinc0 v hd hp hi rfl hv rfl kk
theorem tb_iload_12 {a0 a1 a2 a3 a4 a5 a6 a7 a8 a9 a10 a11 : tb_L} {x : Int32} {L : List tb_L} (hd : decode k.2.1 pc = .ok (.iload 12, 2)) (hp : pc + 2 = pc') (kk : tb_Wp E k d rc rs pc' (a0 :: a1 :: a2 :: a3 :: a4 :: a5 :: a6 :: a7 :: a8 :: a9 :: a10 :: a11 :: some (.inl x) :: L) (.inl x :: S) M Q) : tb_Wp E k d rc rs pc (a0 :: a1 :: a2 :: a3 :: a4 :: a5 :: a6 :: a7 :: a8 :: a9 :: a10 :: a11 :: some (.inl x) :: L) S M Q := tb_iload0 hd hp rfl kk
theorem tb_istore_12 {a0 a1 a2 a3 a4 a5 a6 a7 a8 a9 a10 a11 : tb_L} {b : tb_L} {x : Int32} {L : List tb_L} (hd : decode k.2.1 pc = .ok (.istore 12, 2)) (hp : pc + 2 = pc') (hi : 12 < k.2.2.1) (kk : tb_Wp E k d rc rs pc' (a0 :: a1 :: a2 :: a3 :: a4 :: a5 :: a6 :: a7 :: a8 :: a9 :: a10 :: a11 :: some (.inl x) :: L) S M Q) : tb_Wp E k d rc rs pc (a0 :: a1 :: a2 :: a3 :: a4 :: a5 :: a6 :: a7 :: a8 :: a9 :: a10 :: a11 :: b :: L) (.inl x :: S) M Q := tb_istore0 hd hp hi rfl kk
theorem tb_aload_12 {a0 a1 a2 a3 a4 a5 a6 a7 a8 a9 a10 a11 : tb_L} {x : Nat} {L : List tb_L} (hd : decode k.2.1 pc = .ok (.aload 12, 2)) (hp : pc + 2 = pc') (kk : tb_Wp E k d rc rs pc' (a0 :: a1 :: a2 :: a3 :: a4 :: a5 :: a6 :: a7 :: a8 :: a9 :: a10 :: a11 :: some (.inr x) :: L) (.inr (.inl x) :: S) M Q) : tb_Wp E k d rc rs pc (a0 :: a1 :: a2 :: a3 :: a4 :: a5 :: a6 :: a7 :: a8 :: a9 :: a10 :: a11 :: some (.inr x) :: L) S M Q := tb_aload0 hd hp rfl kk
theorem tb_astore_12 {a0 a1 a2 a3 a4 a5 a6 a7 a8 a9 a10 a11 : tb_L} {b : tb_L} {x : Nat} {L : List tb_L} (hd : decode k.2.1 pc = .ok (.astore 12, 2)) (hp : pc + 2 = pc') (hi : 12 < k.2.2.1) (kk : tb_Wp E k d rc rs pc' (a0 :: a1 :: a2 :: a3 :: a4 :: a5 :: a6 :: a7 :: a8 :: a9 :: a10 :: a11 :: some (.inr x) :: L) S M Q) : tb_Wp E k d rc rs pc (a0 :: a1 :: a2 :: a3 :: a4 :: a5 :: a6 :: a7 :: a8 :: a9 :: a10 :: a11 :: b :: L) (.inr (.inl x) :: S) M Q := tb_astore0 hd hp hi rfl kk
theorem tb_iinc_12 {a0 a1 a2 a3 a4 a5 a6 a7 a8 a9 a10 a11 : tb_L} {n : Int} {x : Int32} {L : List tb_L} (v : Int32) (hd : decode k.2.1 pc = .ok (.iinc 12 n, 3)) (hp : pc + 3 = pc') (hi : 12 < k.2.2.1) (hv : Int32.ofInt n = v) (kk : tb_Wp E k d rc rs pc' (a0 :: a1 :: a2 :: a3 :: a4 :: a5 :: a6 :: a7 :: a8 :: a9 :: a10 :: a11 :: some (.inl (x + v)) :: L) S M Q) : tb_Wp E k d rc rs pc (a0 :: a1 :: a2 :: a3 :: a4 :: a5 :: a6 :: a7 :: a8 :: a9 :: a10 :: a11 :: some (.inl x) :: L) S M Q := tb_iinc0 v hd hp hi rfl hv rfl kk
theorem tb_iload_13 {a0 a1 a2 a3 a4 a5 a6 a7 a8 a9 a10 a11 a12 : tb_L} {x : Int32} {L : List tb_L} (hd : decode k.2.1 pc = .ok (.iload 13, 2)) (hp : pc + 2 = pc') (kk : tb_Wp E k d rc rs pc' (a0 :: a1 :: a2 :: a3 :: a4 :: a5 :: a6 :: a7 :: a8 :: a9 :: a10 :: a11 :: a12 :: some (.inl x) :: L) (.inl x :: S) M Q) : tb_Wp E k d rc rs pc (a0 :: a1 :: a2 :: a3 :: a4 :: a5 :: a6 :: a7 :: a8 :: a9 :: a10 :: a11 :: a12 :: some (.inl x) :: L) S M Q := tb_iload0 hd hp rfl kk
theorem tb_istore_13 {a0 a1 a2 a3 a4 a5 a6 a7 a8 a9 a10 a11 a12 : tb_L} {b : tb_L} {x : Int32} {L : List tb_L} (hd : decode k.2.1 pc = .ok (.istore 13, 2)) (hp : pc + 2 = pc') (hi : 13 < k.2.2.1) (kk : tb_Wp E k d rc rs pc' (a0 :: a1 :: a2 :: a3 :: a4 :: a5 :: a6 :: a7 :: a8 :: a9 :: a10 :: a11 :: a12 :: some (.inl x) :: L) S M Q) : tb_Wp E k d rc rs pc (a0 :: a1 :: a2 :: a3 :: a4 :: a5 :: a6 :: a7 :: a8 :: a9 :: a10 :: a11 :: a12 :: b :: L) (.inl x :: S) M Q := tb_istore0 hd hp hi rfl kk
theorem tb_aload_13 {a0 a1 a2 a3 a4 a5 a6 a7 a8 a9 a10 a11 a12 : tb_L} {x : Nat} {L : List tb_L} (hd : decode k.2.1 pc = .ok (.aload 13, 2)) (hp : pc + 2 = pc') (kk : tb_Wp E k d rc rs pc' (a0 :: a1 :: a2 :: a3 :: a4 :: a5 :: a6 :: a7 :: a8 :: a9 :: a10 :: a11 :: a12 :: some (.inr x) :: L) (.inr (.inl x) :: S) M Q) : tb_Wp E k d rc rs pc (a0 :: a1 :: a2 :: a3 :: a4 :: a5 :: a6 :: a7 :: a8 :: a9 :: a10 :: a11 :: a12 :: some (.inr x) :: L) S M Q := tb_aload0 hd hp rfl kk
theorem tb_astore_13 {a0 a1 a2 a3 a4 a5 a6 a7 a8 a9 a10 a11 a12 : tb_L} {b : tb_L} {x : Nat} {L : List tb_L} (hd : decode k.2.1 pc = .ok (.astore 13, 2)) (hp : pc + 2 = pc') (hi : 13 < k.2.2.1) (kk : tb_Wp E k d rc rs pc' (a0 :: a1 :: a2 :: a3 :: a4 :: a5 :: a6 :: a7 :: a8 :: a9 :: a10 :: a11 :: a12 :: some (.inr x) :: L) S M Q) : tb_Wp E k d rc rs pc (a0 :: a1 :: a2 :: a3 :: a4 :: a5 :: a6 :: a7 :: a8 :: a9 :: a10 :: a11 :: a12 :: b :: L) (.inr (.inl x) :: S) M Q := tb_astore0 hd hp hi rfl kk
theorem tb_iinc_13 {a0 a1 a2 a3 a4 a5 a6 a7 a8 a9 a10 a11 a12 : tb_L} {n : Int} {x : Int32} {L : List tb_L} (v : Int32) (hd : decode k.2.1 pc = .ok (.iinc 13 n, 3)) (hp : pc + 3 = pc') (hi : 13 < k.2.2.1) (hv : Int32.ofInt n = v) (kk : tb_Wp E k d rc rs pc' (a0 :: a1 :: a2 :: a3 :: a4 :: a5 :: a6 :: a7 :: a8 :: a9 :: a10 :: a11 :: a12 :: some (.inl (x + v)) :: L) S M Q) : tb_Wp E k d rc rs pc (a0 :: a1 :: a2 :: a3 :: a4 :: a5 :: a6 :: a7 :: a8 :: a9 :: a10 :: a11 :: a12 :: some (.inl x) :: L) S M Q := tb_iinc0 v hd hp hi rfl hv rfl kk
end Rules
end
section
/-! Rules that read and write the memory, make cells, answer. -/
theorem tb_hts {E : tb_E} {s : State} (hG : tb_G E) (hW : E.2.1.WarmedH s.vm) (args : Array Value) : ∀ w, tb_I1 w → w.before args s = true := fun w hw => word_at hW (good_of_word hw.2) (hG.1 w hw.1)
theorem tb_hK {E : tb_E} {s : State} (hG : tb_G E) (hW : E.2.1.WarmedH s.vm) : va_K E.2.2.2.1 tb_cl (tb_tys E) s := va_K.moved hW.alike hG.2.1
section Mem
variable {E : tb_E} {k : tb_MD} {d rc rs pc pc' : Nat} {L : List tb_L} {S : List tb_V} {M : tb_M} {Q : tb_O → tb_M → Prop}
theorem tb_obj {M : tb_M} {o ci : Nat} (h : tb_K M o = ci + 1) (hc : ci < 99) : tb_ent E M o = .inr (ci, tb_fs E (tb_I M o) (tb_R M o) 0 ((tb_ft[ci]?).getD [])) := by
  unfold tb_ent tb_en
  rw [if_pos (by omega), h]
  rfl
/-- a write into an object or array: the world behind it -/
theorem tb_HR_set {M M' : tb_M} {H H1 : Heap} {r : Nat} {x : va_E} (hH : tb_HR E M H) (hr : r < tb_n M) (hz : H1.size = H.size) (hq : ∀ q : Nat, q < E.2.1.heap.size → H1[q]? = H[q]?) (hn : tb_n M' = tb_n M) (hu : tb_u M' = tb_u M) (hK : tb_K M' = tb_K M) (hx : tb_ent E M' (r + 1) = x) (ho : ∀ o, o ≠ r + 1 → tb_ent E M' o = tb_ent E M o)
    (hP : va_P E.2.2.2.1 tb_cl ((tb_ws E M).set r (E.2.1.heap.size + r, x)) H1) : tb_HR E M' H1 := by
  obtain ⟨-, h2, h3, h4, h5, h6⟩ := hH
  refine ⟨by rw [← tb_ws_set hn hx ho hr]; exact hP, fun q h => (hq q h).trans (h2 q h), by rw [hK]; exact h3, by rw [hK, hn]; exact h4, by rw [hz]; exact h5, by rw [hu, hn, hz]; exact h6⟩
theorem tb_ent_sI {M : tb_M} {o kf o' : Nat} {x : Int32} (h : o' ≠ o) : tb_ent E (tb_sI M o kf x) o' = tb_ent E M o' := by
  show tb_en E tb_ft (tb_K M o') (tb_Ln M o') (va_up (tb_I M) o _ o') (tb_R M o') (tb_J M o') = _
  unfold va_up
  rw [if_neg h]
  rfl
theorem tb_ent_sR {M : tb_M} {o kf o' : Nat} {x : Nat} (h : o' ≠ o) : tb_ent E (tb_sR M o kf x) o' = tb_ent E M o' := by
  show tb_en E tb_ft (tb_K M o') (tb_Ln M o') (tb_I M o') (va_up (tb_R M) o _ o') (tb_J M o') = _
  unfold va_up
  rw [if_neg h]
  rfl
theorem tb_ent_sJ {M : tb_M} {o kf o' : Nat} {x : Int64} (h : o' ≠ o) : tb_ent E (tb_sJ M o kf x) o' = tb_ent E M o' := by
  show tb_en E tb_ft (tb_K M o') (tb_Ln M o') (tb_I M o') (tb_R M o') (va_up (tb_J M) o _ o') = _
  unfold va_up
  rw [if_neg h]
  rfl
theorem tb_nest_moved {s0 U : State} {w : Cond} (hw : w ∈ tb_nest) (hW : s0.WarmedH U.vm) (h : va_Nw w s0) : va_Nw w U := by
  rcases List.mem_append.mp hw with hw | hw
  · rcases List.mem_append.mp hw with hw | hw
    · obtain ⟨q, -, rfl⟩ := List.mem_map.mp hw
      exact va_Nw.warmF hW h
    · obtain ⟨q, -, rfl⟩ := List.mem_map.mp hw
      exact va_Nw.warmM hW h
  · obtain ⟨q, -, rfl⟩ := List.mem_map.mp hw
    exact va_AO.moved (C := q) hW.alike h
theorem tb_cG {p : Program} {e : Env} {s : State} {m : MethodId} {meth : Method} {c : Code} (C : tb_Cx E k p e s m meth c) : tb_G E := C.2.2.2.2.2.2.2.2.2.2.2.2
theorem tb_cW {p : Program} {e : Env} {s : State} {m : MethodId} {meth : Method} {c : Code} (C : tb_Cx E k p e s m meth c) : E.2.1.WarmedH s.vm := C.2.2.2.2.2.2.2.1
theorem tb_cw {p : Program} {e : Env} {s : State} {m : MethodId} {meth : Method} {c : Code} (C : tb_Cx E k p e s m meth c) (args : Array Value) : ∀ w, tb_I1 w → w.before args s = true := tb_hts (tb_cG C) (tb_cW C) args
theorem tb_cK {p : Program} {e : Env} {s : State} {m : MethodId} {meth : Method} {c : Code} (C : tb_Cx E k p e s m meth c) : va_K E.2.2.2.1 tb_cl (tb_tys E) s := tb_hK (tb_cG C) (tb_cW C)
theorem tb_cO {p : Program} {e : Env} {s : State} {m : MethodId} {meth : Method} {c : Code} (C : tb_Cx E k p e s m meth c) : s.vm.findClass k.1.cls = some m.cls := C.2.2.2.1
theorem tb_cNw {p : Program} {e : Env} {s : State} {m : MethodId} {meth : Method} {c : Code} (C : tb_Cx E k p e s m meth c) {w : Cond} (hw : w ∈ tb_nest) : va_Nw w s := tb_nest_moved hw (tb_cW C) ((tb_cG C).2.2.1 w hw)
theorem tb_getI {C0 : String} {T : u_T} {N ci j index o : Nat} (hd : decode k.2.1 pc = .ok (.getfield index, 3)) (hp : pc + 3 = pc') (hc : tb_cl[ci]? = some (C0, T, N)) (hci : ci < 99) (hin : ∀ w ∈ u_ws C0 T N, tb_I1 w) (hj : j < N) (hf : ((tb_ft[ci]?).getD [])[j]? = some false) (hlink : tb_I1 (Cond.fieldLink k.1.cls index (T j).1 (T j).2.1 (T j).2.2.1)) (hKo : tb_K M o = ci + 1) (kk : tb_Wp E k d rc rs pc' L (.inl (tb_I M o j) :: S) M Q) : tb_Wp E k d rc rs pc L (.inr (.inl o) :: S) M Q := by
  subst hp
  intro p e R s m args below meth c H locs cells slots mc ms ls C hl hH hS h1 h2 hR
  obtain ⟨r, rfl, hr, he⟩ := tb_cell hH (by rw [hKo]; omega)
  rw [tb_obj hKo hci] at he
  exact va_get (D := E.2.2.2.1) (v := .int (tb_I M (r + 1) j)) C.1 C.2.1 (fun w h => tb_cw C args w (hin w h)) (fun _ h => h) (tb_cO C) (tb_cK C) hH.1 r he hc j hj (tb_cw C args _ hlink) (fun _ h9 => h9) (by rw [tb_fs_get]; simp [hf]) hd (kk p e R s m args below meth c H locs cells slots mc ms ls C hl hH hS h1 h2 hR)
theorem tb_getR {C0 : String} {T : u_T} {N ci j index o : Nat} (hd : decode k.2.1 pc = .ok (.getfield index, 3)) (hp : pc + 3 = pc') (hc : tb_cl[ci]? = some (C0, T, N)) (hci : ci < 99) (hin : ∀ w ∈ u_ws C0 T N, tb_I1 w) (hj : j < N) (hf : ((tb_ft[ci]?).getD [])[j]? = some true) (hlink : tb_I1 (Cond.fieldLink k.1.cls index (T j).1 (T j).2.1 (T j).2.2.1)) (hKo : tb_K M o = ci + 1) (kk : tb_Wp E k d rc rs pc' L (.inr (.inl (tb_R M o j)) :: S) M Q) : tb_Wp E k d rc rs pc L (.inr (.inl o) :: S) M Q := by
  subst hp
  intro p e R s m args below meth c H locs cells slots mc ms ls C hl hH hS h1 h2 hR
  obtain ⟨r, rfl, hr, he⟩ := tb_cell hH (by rw [hKo]; omega)
  rw [tb_obj hKo hci] at he
  exact va_get (D := E.2.2.2.1) (v := va_rf (tb_ro E (tb_R M (r + 1) j))) C.1 C.2.1 (fun w h => tb_cw C args w (hin w h)) (fun _ h => h) (tb_cO C) (tb_cK C) hH.1 r he hc j hj (tb_cw C args _ hlink) (fun _ h9 => h9) (by rw [tb_fs_get]; simp [hf]) hd (kk p e R s m args below meth c H locs cells slots mc ms ls C hl hH hS h1 h2 hR)
theorem tb_getIN {C0 : String} {T : u_T} {N ci j index o : Nat} {host : String} (hd : decode k.2.1 pc = .ok (.getfield index, 3)) (hp : pc + 3 = pc') (hc : tb_cl[ci]? = some (C0, T, N)) (hci : ci < 99) (hin : ∀ w ∈ u_ws C0 T N, tb_I1 w) (hj : j < N) (hf : ((tb_ft[ci]?).getD [])[j]? = some false) (hlink : Cond.fieldLinkNest k.1.cls index (T j).1 (T j).2.1 (T j).2.2.1 host ∈ tb_nest) (hKo : tb_K M o = ci + 1) (kk : tb_Wp E k d rc rs pc' L (.inl (tb_I M o j) :: S) M Q) : tb_Wp E k d rc rs pc L (.inr (.inl o) :: S) M Q := by
  subst hp
  intro p e R s m args below meth c H locs cells slots mc ms ls C hl hH hS h1 h2 hR
  obtain ⟨r, rfl, hr, he⟩ := tb_cell hH (by rw [hKo]; omega)
  rw [tb_obj hKo hci] at he
  exact va_getN (D := E.2.2.2.1) (v := .int (tb_I M (r + 1) j)) C.1 C.2.1 (fun w h => tb_cw C args w (hin w h)) (fun _ h => h) (tb_cO C) (tb_cK C) hH.1 r he hc j hj (va_Nw.use rfl (tb_cNw C hlink)) (fun _ h9 => h9) (by rw [tb_fs_get]; simp [hf]) hd (kk p e R s m args below meth c H locs cells slots mc ms ls C hl hH hS h1 h2 hR)
theorem tb_getRN {C0 : String} {T : u_T} {N ci j index o : Nat} {host : String} (hd : decode k.2.1 pc = .ok (.getfield index, 3)) (hp : pc + 3 = pc') (hc : tb_cl[ci]? = some (C0, T, N)) (hci : ci < 99) (hin : ∀ w ∈ u_ws C0 T N, tb_I1 w) (hj : j < N) (hf : ((tb_ft[ci]?).getD [])[j]? = some true) (hlink : Cond.fieldLinkNest k.1.cls index (T j).1 (T j).2.1 (T j).2.2.1 host ∈ tb_nest) (hKo : tb_K M o = ci + 1) (kk : tb_Wp E k d rc rs pc' L (.inr (.inl (tb_R M o j)) :: S) M Q) : tb_Wp E k d rc rs pc L (.inr (.inl o) :: S) M Q := by
  subst hp
  intro p e R s m args below meth c H locs cells slots mc ms ls C hl hH hS h1 h2 hR
  obtain ⟨r, rfl, hr, he⟩ := tb_cell hH (by rw [hKo]; omega)
  rw [tb_obj hKo hci] at he
  exact va_getN (D := E.2.2.2.1) (v := va_rf (tb_ro E (tb_R M (r + 1) j))) C.1 C.2.1 (fun w h => tb_cw C args w (hin w h)) (fun _ h => h) (tb_cO C) (tb_cK C) hH.1 r he hc j hj (va_Nw.use rfl (tb_cNw C hlink)) (fun _ h9 => h9) (by rw [tb_fs_get]; simp [hf]) hd (kk p e R s m args below meth c H locs cells slots mc ms ls C hl hH hS h1 h2 hR)
theorem tb_put_after {M M' : tb_M} {C0 : String} {T : u_T} {N ci j r : Nat} {v : Value} {fs' : List Value} {s : State} {H H1 : Heap} {locs : List Loc} {args : Array Value} {cell : Cell} {i0 : Nat} (hts : ∀ w ∈ u_ws C0 T N, w.before args s = true) (ty0 : Nat → FieldType) (hty : ∀ k, k < N → parseFieldDescriptor (T k).2.2.1 = some (ty0 k)) (hnm : ∀ a, a < N → ∀ b, b < N → a ≠ b → (T a).2.1 ≠ (T b).2.1) (hK : va_K E.2.2.2.1 tb_cl (tb_tys E) s) (hc : tb_cl[ci]? = some (C0, T, N)) (hH : tb_HR E M H) (hS : va_S (tb_A E) s.heap H locs)
    (hr : r < tb_n M) {fs : List Value} (he : (tb_ws E M)[r]? = some (E.2.1.heap.size + r, .inr (ci, fs))) (hj : j < N) (hl : j < fs.length) (q2 : cell.cls = E.2.2.2.1.1 ci) (q3 : cell.vm = .none) (q4 : ∀ k, k < N → cell.slots[E.2.2.2.1.2 ci k]? = some (vp_V fs k))
    (e1 : H1[E.2.1.heap.size + r]? = some (cell.setSlot (E.2.2.2.1.2 ci j) v)) (e2 : H1.size = H.size) (e3 : ∀ q, q ≠ E.2.1.heap.size + r → H1[q]? = H[q]?)
    (hfs : fs.set j v = fs') (hn : tb_n M' = tb_n M) (hu : tb_u M' = tb_u M) (hKK : tb_K M' = tb_K M) (hx : tb_ent E M' (r + 1) = .inr (ci, fs')) (ho : ∀ o, o ≠ r + 1 → tb_ent E M' o = tb_ent E M o) : tb_HR E M' H1 ∧ va_S (tb_A E) s.heap H1 (locs ++ [⟨E.2.1.heap.size + r, i0⟩]) := by
  have hap := va_apart (own := C0) hts (fun _ h => h) ty0 hty hnm hK hc
  subst hfs
  refine ⟨tb_HR_set hH hr e2 (fun q h => e3 q (by omega)) hn hu hKK hx ho ?_, hS.put e2 e3 (by show _ ≤ _; omega)⟩
  exact hH.1.set (tb_ws_D E M) he ⟨_, hc, t_OB.to (V := updV (vp_V fs) j v) ⟨_, e1, q2, q3, t_set q4 hap hj v⟩ (fun i _ => vp_updV_set hl v i)⟩ e3
theorem tb_putI {C0 : String} {T : u_T} {N ci j index o : Nat} {x : Int32} (hd : decode k.2.1 pc = .ok (.putfield index, 3)) (hp : pc + 3 = pc') (hc : tb_cl[ci]? = some (C0, T, N)) (hci : ci < 99) (hin : ∀ w ∈ u_ws C0 T N, tb_I1 w) (ty0 : Nat → FieldType) (hty : ∀ k, k < N → parseFieldDescriptor (T k).2.2.1 = some (ty0 k)) (hnm : ∀ a, a < N → ∀ b, b < N → a ≠ b → (T a).2.1 ≠ (T b).2.1) (hj : j < N) (hf : ((tb_ft[ci]?).getD [])[j]? = some false) (hlink : tb_I1 (Cond.fieldLink k.1.cls index (T j).1 (T j).2.1 (T j).2.2.1)) (hfin : (T j).2.2.2 = false) (hKo : tb_K M o = ci + 1) (hna : narrow (ty0 j) (.int x) = .int x) (hfi : fits (ty0 j) (.int x) = true) (kk : tb_Wp E k d rc rs pc' L S (tb_sI M o j x) Q) : tb_Wp E k d rc rs pc L (.inl x :: .inr (.inl o) :: S) M Q := by
  subst hp
  intro p e R s m args below meth c H locs cells slots mc ms ls C hl hH hS h1 h2 hR
  obtain ⟨r, rfl, hr, he⟩ := tb_cell hH (by rw [hKo]; omega)
  rw [tb_obj hKo hci] at he
  have hts : ∀ w ∈ u_ws C0 T N, w.before args s = true := fun w h => tb_cw C args w (hin w h)
  have hK := tb_cK C
  obtain ⟨r0, g1, cell, q1, q2, q3, q4⟩ := hH.1 r _ he
  have hr0 : r0 = (C0, T, N) := Option.some.inj (g1.symm.trans hc)
  subst hr0
  obtain ⟨hSl, hfc, kC, hkC, hkind⟩ := hK.1 ci _ hc
  obtain ⟨cf, kf, fi, f, hi, hsl⟩ := hSl j hj
  have hlay := hts _ (u_in_lay hj)
  unfold u_lay at hlay
  have hst := (u_facts hfc hkC (u_lays hts (fun _ h => h) hj) hi).1
  have hlen : j < (tb_fs E (tb_I M (r + 1)) (tb_R M (r + 1)) 0 ((tb_ft[ci]?).getD [])).length := by rw [tb_fs_len]; exact (List.getElem?_eq_some_iff.mp hf).1
  rw [if_neg (by rw [hfin]; decide)] at hlay
  have h6 := u_store hfc hkC hkind hlay hi (hty j hj) hna hfi
  refine W.putK C.1 C.2.1 (f := f) ⟨tb_cO C, tb_cw C args _ hlink, ⟨_, _, _, hi⟩, hst⟩ (by rw [q2]; exact h6) q1 q3 (by rw [hsl]; exact k2_hasslot (q4 j hj)) rfl rfl hd fun H1 e1 e2 e3 => ?_
  rw [hsl] at e1 ⊢
  obtain ⟨hH', hS'⟩ := tb_put_after (E := E) (M := M) (args := args) (M' := tb_sI M (r + 1) j x) (i0 := E.2.2.2.1.2 ci j) hts ty0 hty hnm hK hc hH hS hr he hj hlen q2 q3 q4 e1 e2 e3 (tb_fs_setI E _ _ _ j x hf) rfl rfl rfl (by rw [tb_obj (M := tb_sI M (r + 1) j x) hKo hci]; simp [tb_sI, tb_I, tb_R, va_up]) (fun o ho => tb_ent_sI ho)
  exact kk p e R s m args below meth c H1 _ cells slots mc ms ls C hl hH' hS' h1 h2 hR
theorem tb_putIN {C0 : String} {T : u_T} {N ci j index o : Nat} {x : Int32} {host : String} (hd : decode k.2.1 pc = .ok (.putfield index, 3)) (hp : pc + 3 = pc') (hc : tb_cl[ci]? = some (C0, T, N)) (hci : ci < 99) (hin : ∀ w ∈ u_ws C0 T N, tb_I1 w) (ty0 : Nat → FieldType) (hty : ∀ k, k < N → parseFieldDescriptor (T k).2.2.1 = some (ty0 k)) (hnm : ∀ a, a < N → ∀ b, b < N → a ≠ b → (T a).2.1 ≠ (T b).2.1) (hj : j < N) (hf : ((tb_ft[ci]?).getD [])[j]? = some false) (hlink : Cond.fieldLinkNest k.1.cls index (T j).1 (T j).2.1 (T j).2.2.1 host ∈ tb_nest) (hfin : (T j).2.2.2 = false) (hKo : tb_K M o = ci + 1) (hna : narrow (ty0 j) (.int x) = .int x) (hfi : fits (ty0 j) (.int x) = true) (kk : tb_Wp E k d rc rs pc' L S (tb_sI M o j x) Q) : tb_Wp E k d rc rs pc L (.inl x :: .inr (.inl o) :: S) M Q := by
  subst hp
  intro p e R s m args below meth c H locs cells slots mc ms ls C hl hH hS h1 h2 hR
  obtain ⟨r, rfl, hr, he⟩ := tb_cell hH (by rw [hKo]; omega)
  rw [tb_obj hKo hci] at he
  have hts : ∀ w ∈ u_ws C0 T N, w.before args s = true := fun w h => tb_cw C args w (hin w h)
  have hK := tb_cK C
  obtain ⟨r0, g1, cell, q1, q2, q3, q4⟩ := hH.1 r _ he
  have hr0 : r0 = (C0, T, N) := Option.some.inj (g1.symm.trans hc)
  subst hr0
  obtain ⟨hSl, hfc, kC, hkC, hkind⟩ := hK.1 ci _ hc
  obtain ⟨cf, kf, fi, f, hi, hsl⟩ := hSl j hj
  have hlay := hts _ (u_in_lay hj)
  unfold u_lay at hlay
  have hst := (u_facts hfc hkC (u_lays hts (fun _ h => h) hj) hi).1
  have hlen : j < (tb_fs E (tb_I M (r + 1)) (tb_R M (r + 1)) 0 ((tb_ft[ci]?).getD [])).length := by rw [tb_fs_len]; exact (List.getElem?_eq_some_iff.mp hf).1
  rw [if_neg (by rw [hfin]; decide)] at hlay
  have h6 := u_store hfc hkC hkind hlay hi (hty j hj) hna hfi
  refine va_WputK C.1 C.2.1 (f := f) (tb_cO C) (va_Nw.use rfl (tb_cNw C hlink)) hi hst (by rw [q2]; exact h6) q1 q3 (by rw [hsl]; exact k2_hasslot (q4 j hj)) rfl rfl hd fun H1 e1 e2 e3 => ?_
  rw [hsl] at e1 ⊢
  obtain ⟨hH', hS'⟩ := tb_put_after (E := E) (M := M) (args := args) (M' := tb_sI M (r + 1) j x) (i0 := E.2.2.2.1.2 ci j) hts ty0 hty hnm hK hc hH hS hr he hj hlen q2 q3 q4 e1 e2 e3 (tb_fs_setI E _ _ _ j x hf) rfl rfl rfl (by rw [tb_obj (M := tb_sI M (r + 1) j x) hKo hci]; simp [tb_sI, tb_I, tb_R, va_up]) (fun o ho => tb_ent_sI ho)
  exact kk p e R s m args below meth c H1 _ cells slots mc ms ls C hl hH' hS' h1 h2 hR
theorem tb_putF {C0 : String} {T : u_T} {N ci j index o : Nat} {x : Nat} (hd : decode k.2.1 pc = .ok (.putfield index, 3)) (hp : pc + 3 = pc') (hc : tb_cl[ci]? = some (C0, T, N)) (hci : ci < 99) (hin : ∀ w ∈ u_ws C0 T N, tb_I1 w) (ty0 : Nat → FieldType) (hty : ∀ k, k < N → parseFieldDescriptor (T k).2.2.1 = some (ty0 k)) (hnm : ∀ a, a < N → ∀ b, b < N → a ≠ b → (T a).2.1 ≠ (T b).2.1) (hj : j < N) (hf : ((tb_ft[ci]?).getD [])[j]? = some true) (hlink : tb_I1 (Cond.fieldLink k.1.cls index (T j).1 (T j).2.1 (T j).2.2.1)) (hfin : (T j).2.2.2 = true) (hdecl : (T j).1 = k.1.cls) (hinit : k.1.name = "<init>") (hKo : tb_K M o = ci + 1) (hna : narrow (ty0 j) (va_rf (tb_ro E x)) = va_rf (tb_ro E x)) (hfi : fits (ty0 j) (va_rf (tb_ro E x)) = true) (kk : tb_Wp E k d rc rs pc' L S (tb_sR M o j x) Q) : tb_Wp E k d rc rs pc L (.inr (.inl x) :: .inr (.inl o) :: S) M Q := by
  subst hp
  intro p e R s m args below meth c H locs cells slots mc ms ls C hl hH hS h1 h2 hR
  obtain ⟨r, rfl, hr, he⟩ := tb_cell hH (by rw [hKo]; omega)
  rw [tb_obj hKo hci] at he
  have hts : ∀ w ∈ u_ws C0 T N, w.before args s = true := fun w h => tb_cw C args w (hin w h)
  have hK := tb_cK C
  obtain ⟨r0, g1, cell, q1, q2, q3, q4⟩ := hH.1 r _ he
  have hr0 : r0 = (C0, T, N) := Option.some.inj (g1.symm.trans hc)
  subst hr0
  obtain ⟨hSl, hfc, kC, hkC, hkind⟩ := hK.1 ci _ hc
  obtain ⟨cf, kf, fi, f, hi, hsl⟩ := hSl j hj
  have hlay := hts _ (u_in_lay hj)
  unfold u_lay at hlay
  have hst := (u_facts hfc hkC (u_lays hts (fun _ h => h) hj) hi).1
  have hlen : j < (tb_fs E (tb_I M (r + 1)) (tb_R M (r + 1)) 0 ((tb_ft[ci]?).getD [])).length := by rw [tb_fs_len]; exact (List.getElem?_eq_some_iff.mp hf).1
  rw [if_pos hfin] at hlay
  have hcf : m.cls = cf := by
    obtain ⟨_, _, c', _, _, _, -, -, hf', -, -, -, hown2, -⟩ := Cond.laysFinal_spec hlay
    have e1 : c' = cf := by have := hi.symm.trans hf'; simp at this; exact this.1.symm
    rw [hdecl] at hown2
    rw [← e1]; exact Option.some.inj ((tb_cO C).symm.trans hown2)
  have h6 := u_fits hfc hkC hkind (Or.inr hlay) hi (hty j hj) hna hfi
  refine W.putFinK C.1 C.2.1 (tb_cO C) (tb_cw C args _ hlink) hi hst hcf (C.2.2.2.2.2.2.1.trans hinit) (by rw [q2]; exact h6) q1 q3 (by rw [hsl]; exact k2_hasslot (q4 j hj)) rfl rfl hd fun H1 e1 e2 e3 => ?_
  rw [hsl] at e1 ⊢
  obtain ⟨hH', hS'⟩ := tb_put_after (E := E) (M := M) (args := args) (M' := tb_sR M (r + 1) j x) (i0 := E.2.2.2.1.2 ci j) hts ty0 hty hnm hK hc hH hS hr he hj hlen q2 q3 q4 e1 e2 e3 (tb_fs_setR E _ _ _ j x hf) rfl rfl rfl (by rw [tb_obj (M := tb_sR M (r + 1) j x) hKo hci]; simp [tb_sR, tb_R, tb_I, va_up]) (fun o ho => tb_ent_sR ho)
  exact kk p e R s m args below meth c H1 _ cells slots mc ms ls C hl hH' hS' h1 h2 hR
theorem tb_arrI {M : tb_M} {o t : Nat} (h : tb_K M o = 100 + t) (ht : t < 4) : tb_ent E M o = .inl (E.2.2.2.2 t, tb_Ln M o, .inl (tb_I M o)) := by
  unfold tb_ent tb_en
  rw [if_neg (by omega), if_pos (by omega), h, show 100 + t - 100 = t by omega]
theorem tb_arrJ {M : tb_M} {o : Nat} (h : tb_K M o = 104) : tb_ent E M o = .inl (E.2.2.2.2 4, tb_Ln M o, .inr (.inl (tb_J M o))) := by
  unfold tb_ent tb_en
  rw [if_neg (by omega), if_neg (by omega), if_pos h]
theorem tb_arrR {M : tb_M} {o t : Nat} (h : tb_K M o = 100 + t) (ht : 4 < t) : tb_ent E M o = .inl (E.2.2.2.2 t, tb_Ln M o, .inr (.inr (.inr (.inr (fun j => tb_ro E (tb_R M o j)))))) := by
  unfold tb_ent tb_en
  rw [if_neg (by omega), if_neg (by omega), if_neg (by omega), h, show 100 + t - 100 = t by omega]
theorem tb_iaload {o : Nat} {i : Int32} (hd : decode k.2.1 pc = .ok (.iaload, 1)) (hp : pc + 1 = pc') (hKo : tb_K M o = 100 + 0) (hin : vp_in i (tb_Ln M o)) (kk : tb_Wp E k d rc rs pc' L (.inl (tb_I M o i.toNatClampNeg) :: S) M Q) : tb_Wp E k d rc rs pc L (.inl i :: .inr (.inl o) :: S) M Q := by
  subst hp
  intro p e R s m args below meth c H locs cells slots mc ms ls C hl hH hS h1 h2 hR
  obtain ⟨r, rfl, hr, he⟩ := tb_cell hH (by rw [hKo]; omega)
  rw [tb_arrI hKo (by decide)] at he
  exact va_iald C.1 C.2.1 (tb_cK C) hH.1 r 0 he rfl hin hd (kk p e R s m args below meth c H locs cells slots mc ms ls C hl hH hS h1 h2 hR)
theorem tb_saload {o : Nat} {i : Int32} (hd : decode k.2.1 pc = .ok (.saload, 1)) (hp : pc + 1 = pc') (hKo : tb_K M o = 100 + 1) (hin : vp_in i (tb_Ln M o)) (kk : tb_Wp E k d rc rs pc' L (.inl (tb_I M o i.toNatClampNeg) :: S) M Q) : tb_Wp E k d rc rs pc L (.inl i :: .inr (.inl o) :: S) M Q := by
  subst hp
  intro p e R s m args below meth c H locs cells slots mc ms ls C hl hH hS h1 h2 hR
  obtain ⟨r, rfl, hr, he⟩ := tb_cell hH (by rw [hKo]; omega)
  rw [tb_arrI hKo (by decide)] at he
  exact va_sald C.1 C.2.1 (tb_cK C) hH.1 r 1 he rfl hin hd (kk p e R s m args below meth c H locs cells slots mc ms ls C hl hH hS h1 h2 hR)
theorem tb_caload {o : Nat} {i : Int32} (hd : decode k.2.1 pc = .ok (.caload, 1)) (hp : pc + 1 = pc') (hKo : tb_K M o = 100 + 2) (hin : vp_in i (tb_Ln M o)) (kk : tb_Wp E k d rc rs pc' L (.inl (tb_I M o i.toNatClampNeg) :: S) M Q) : tb_Wp E k d rc rs pc L (.inl i :: .inr (.inl o) :: S) M Q := by
  subst hp
  intro p e R s m args below meth c H locs cells slots mc ms ls C hl hH hS h1 h2 hR
  obtain ⟨r, rfl, hr, he⟩ := tb_cell hH (by rw [hKo]; omega)
  rw [tb_arrI hKo (by decide)] at he
  exact va_cald C.1 C.2.1 (tb_cK C) hH.1 r 2 he rfl hin hd (kk p e R s m args below meth c H locs cells slots mc ms ls C hl hH hS h1 h2 hR)
theorem tb_zaload {o : Nat} {i : Int32} (hd : decode k.2.1 pc = .ok (.baload, 1)) (hp : pc + 1 = pc') (hKo : tb_K M o = 100 + 3) (hin : vp_in i (tb_Ln M o)) (kk : tb_Wp E k d rc rs pc' L (.inl (tb_I M o i.toNatClampNeg) :: S) M Q) : tb_Wp E k d rc rs pc L (.inl i :: .inr (.inl o) :: S) M Q := by
  subst hp
  intro p e R s m args below meth c H locs cells slots mc ms ls C hl hH hS h1 h2 hR
  obtain ⟨r, rfl, hr, he⟩ := tb_cell hH (by rw [hKo]; omega)
  rw [tb_arrI hKo (by decide)] at he
  exact va_zald C.1 C.2.1 (tb_cK C) hH.1 r 3 he rfl hin hd (kk p e R s m args below meth c H locs cells slots mc ms ls C hl hH hS h1 h2 hR)
theorem tb_laload {o : Nat} {i : Int32} (hd : decode k.2.1 pc = .ok (.laload, 1)) (hp : pc + 1 = pc') (hKo : tb_K M o = 104) (hin : vp_in i (tb_Ln M o)) (kk : tb_Wp E k d rc rs pc' L (.inr (.inr (tb_J M o i.toNatClampNeg)) :: S) M Q) : tb_Wp E k d rc rs pc L (.inl i :: .inr (.inl o) :: S) M Q := by
  subst hp
  intro p e R s m args below meth c H locs cells slots mc ms ls C hl hH hS h1 h2 hR
  obtain ⟨r, rfl, hr, he⟩ := tb_cell hH (by rw [hKo]; omega)
  rw [tb_arrJ hKo] at he
  exact va_lald C.1 C.2.1 (tb_cK C) hH.1 r 4 he rfl hin hd (kk p e R s m args below meth c H locs cells slots mc ms ls C hl hH hS h1 h2 hR)
theorem tb_aaload {C0 : String} {o t : Nat} {i : Int32} (hd : decode k.2.1 pc = .ok (.aaload, 1)) (hp : pc + 1 = pc') (ht : 4 < t) (hty : tb_ty[t]? = some (.object C0)) (hKo : tb_K M o = 100 + t) (hin : vp_in i (tb_Ln M o)) (kk : tb_Wp E k d rc rs pc' L (.inr (.inl (tb_R M o i.toNatClampNeg)) :: S) M Q) : tb_Wp E k d rc rs pc L (.inl i :: .inr (.inl o) :: S) M Q := by
  subst hp
  intro p e R s m args below meth c H locs cells slots mc ms ls C hl hH hS h1 h2 hR
  obtain ⟨r, rfl, hr, he⟩ := tb_cell hH (by rw [hKo]; omega)
  rw [tb_arrR hKo ht] at he
  exact va_aldq (C := C0) C.1 C.2.1 (tb_cK C) hH.1 r t he (by simp [tb_tys, hty]) hin hd (kk p e R s m args below meth c H locs cells slots mc ms ls C hl hH hS h1 h2 hR)
theorem tb_iastore {o : Nat} {i x : Int32} (hd : decode k.2.1 pc = .ok (.iastore, 1)) (hp : pc + 1 = pc') (hKo : tb_K M o = 100 + 0) (hin : vp_in i (tb_Ln M o)) (kk : tb_Wp E k d rc rs pc' L S (tb_sI M o i.toNatClampNeg x) Q) : tb_Wp E k d rc rs pc L (.inl x :: .inl i :: .inr (.inl o) :: S) M Q := by
  subst hp
  intro p e R s m args below meth c H locs cells slots mc ms ls C hl hH hS h1 h2 hR
  obtain ⟨r, rfl, hr, he⟩ := tb_cell hH (by rw [hKo]; omega)
  rw [tb_arrI hKo (by decide)] at he
  refine W.iast C.1 C.2.1 (hH.1 r _ he) (((tb_cK C).2 0 _ rfl).1 (tb_Ln M (r + 1)) (fun j => .int (tb_I M (r + 1) j))) (fun q => by cases q) (by show ¬ (i < 0 ∨ (arrV _ _ _).slots.size ≤ _); rw [arrV_size]; exact hin) rfl rfl hd fun H1 e z oq => ?_
  refine kk p _ R s m args below meth c H1 _ cells slots mc ms ls C hl (tb_HR_set (M' := tb_sI M (r + 1) i.toNatClampNeg x) hH hr z (fun q h => oq q (Nat.ne_of_lt (Nat.lt_of_lt_of_le h (Nat.le_add_right _ r)))) rfl rfl rfl (tb_arrI (M := tb_sI M (r + 1) i.toNatClampNeg x) hKo (by decide)) (fun o ho => tb_ent_sI ho) (hH.1.set (tb_ws_D E M) he ?_ oq)) (hS.put z oq (by show _ ≤ _; omega)) h1 h2 hR
  show H1[E.2.1.heap.size + r]? = some (vp_cell _ _)
  rw [e, vp_cell_i, vp_cell_i, arrV_store]
  congr 2
  funext q
  by_cases hq : q = i.toNatClampNeg
  · subst hq
    simp [updV, tb_sI, tb_I, va_up]
  · simp [updV, tb_sI, tb_I, va_up, hq]
theorem tb_sastore {o : Nat} {i x : Int32} (hd : decode k.2.1 pc = .ok (.sastore, 1)) (hp : pc + 1 = pc') (hKo : tb_K M o = 100 + 1) (hin : vp_in i (tb_Ln M o)) (kk : tb_Wp E k d rc rs pc' L S (tb_sI M o i.toNatClampNeg (vp_nar .short x)) Q) : tb_Wp E k d rc rs pc L (.inl x :: .inl i :: .inr (.inl o) :: S) M Q := by
  subst hp
  intro p e R s m args below meth c H locs cells slots mc ms ls C hl hH hS h1 h2 hR
  obtain ⟨r, rfl, hr, he⟩ := tb_cell hH (by rw [hKo]; omega)
  rw [tb_arrI hKo (by decide)] at he
  refine W.sast C.1 C.2.1 (hH.1 r _ he) (((tb_cK C).2 1 _ rfl).1 (tb_Ln M (r + 1)) (fun j => .int (tb_I M (r + 1) j))) (fun q => by cases q) (by show ¬ (i < 0 ∨ (arrV _ _ _).slots.size ≤ _); rw [arrV_size]; exact hin) rfl rfl hd fun H1 e z oq => ?_
  refine kk p _ R s m args below meth c H1 _ cells slots mc ms ls C hl (tb_HR_set (M' := tb_sI M (r + 1) i.toNatClampNeg (vp_nar .short x)) hH hr z (fun q h => oq q (Nat.ne_of_lt (Nat.lt_of_lt_of_le h (Nat.le_add_right _ r)))) rfl rfl rfl (tb_arrI (M := tb_sI M (r + 1) i.toNatClampNeg (vp_nar .short x)) hKo (by decide)) (fun o ho => tb_ent_sI ho) (hH.1.set (tb_ws_D E M) he ?_ oq)) (hS.put z oq (by show _ ≤ _; omega)) h1 h2 hR
  show H1[E.2.1.heap.size + r]? = some (vp_cell _ _)
  rw [e, vp_cell_i, vp_cell_i, arrV_store]
  congr 2
  funext q
  by_cases hq : q = i.toNatClampNeg
  · subst hq
    simp [updV, tb_sI, tb_I, va_up, vp_nar, narrow]
  · simp [updV, tb_sI, tb_I, va_up, hq]
theorem tb_castore {o : Nat} {i x : Int32} (hd : decode k.2.1 pc = .ok (.castore, 1)) (hp : pc + 1 = pc') (hKo : tb_K M o = 100 + 2) (hin : vp_in i (tb_Ln M o)) (kk : tb_Wp E k d rc rs pc' L S (tb_sI M o i.toNatClampNeg (vp_nar .char x)) Q) : tb_Wp E k d rc rs pc L (.inl x :: .inl i :: .inr (.inl o) :: S) M Q := by
  subst hp
  intro p e R s m args below meth c H locs cells slots mc ms ls C hl hH hS h1 h2 hR
  obtain ⟨r, rfl, hr, he⟩ := tb_cell hH (by rw [hKo]; omega)
  rw [tb_arrI hKo (by decide)] at he
  refine W.cast C.1 C.2.1 (hH.1 r _ he) (((tb_cK C).2 2 _ rfl).1 (tb_Ln M (r + 1)) (fun j => .int (tb_I M (r + 1) j))) (fun q => by cases q) (by show ¬ (i < 0 ∨ (arrV _ _ _).slots.size ≤ _); rw [arrV_size]; exact hin) rfl rfl hd fun H1 e z oq => ?_
  refine kk p _ R s m args below meth c H1 _ cells slots mc ms ls C hl (tb_HR_set (M' := tb_sI M (r + 1) i.toNatClampNeg (vp_nar .char x)) hH hr z (fun q h => oq q (Nat.ne_of_lt (Nat.lt_of_lt_of_le h (Nat.le_add_right _ r)))) rfl rfl rfl (tb_arrI (M := tb_sI M (r + 1) i.toNatClampNeg (vp_nar .char x)) hKo (by decide)) (fun o ho => tb_ent_sI ho) (hH.1.set (tb_ws_D E M) he ?_ oq)) (hS.put z oq (by show _ ≤ _; omega)) h1 h2 hR
  show H1[E.2.1.heap.size + r]? = some (vp_cell _ _)
  rw [e, vp_cell_i, vp_cell_i, arrV_store]
  congr 2
  funext q
  by_cases hq : q = i.toNatClampNeg
  · subst hq
    simp [updV, tb_sI, tb_I, va_up, vp_nar, narrow]
  · simp [updV, tb_sI, tb_I, va_up, hq]
theorem tb_zastore {o : Nat} {i x : Int32} (hd : decode k.2.1 pc = .ok (.bastore, 1)) (hp : pc + 1 = pc') (hKo : tb_K M o = 100 + 3) (hin : vp_in i (tb_Ln M o)) (kk : tb_Wp E k d rc rs pc' L S (tb_sI M o i.toNatClampNeg (vp_nar .boolean x)) Q) : tb_Wp E k d rc rs pc L (.inl x :: .inl i :: .inr (.inl o) :: S) M Q := by
  subst hp
  intro p e R s m args below meth c H locs cells slots mc ms ls C hl hH hS h1 h2 hR
  obtain ⟨r, rfl, hr, he⟩ := tb_cell hH (by rw [hKo]; omega)
  rw [tb_arrI hKo (by decide)] at he
  refine W.zast C.1 C.2.1 (hH.1 r _ he) (((tb_cK C).2 3 _ rfl).1 (tb_Ln M (r + 1)) (fun j => .int (tb_I M (r + 1) j))) (fun q => by cases q) (by show ¬ (i < 0 ∨ (arrV _ _ _).slots.size ≤ _); rw [arrV_size]; exact hin) rfl rfl hd fun H1 e z oq => ?_
  refine kk p _ R s m args below meth c H1 _ cells slots mc ms ls C hl (tb_HR_set (M' := tb_sI M (r + 1) i.toNatClampNeg (vp_nar .boolean x)) hH hr z (fun q h => oq q (Nat.ne_of_lt (Nat.lt_of_lt_of_le h (Nat.le_add_right _ r)))) rfl rfl rfl (tb_arrI (M := tb_sI M (r + 1) i.toNatClampNeg (vp_nar .boolean x)) hKo (by decide)) (fun o ho => tb_ent_sI ho) (hH.1.set (tb_ws_D E M) he ?_ oq)) (hS.put z oq (by show _ ≤ _; omega)) h1 h2 hR
  show H1[E.2.1.heap.size + r]? = some (vp_cell _ _)
  rw [e, vp_cell_i, vp_cell_i, arrV_store]
  congr 2
  funext q
  by_cases hq : q = i.toNatClampNeg
  · subst hq
    simp [updV, tb_sI, tb_I, va_up, vp_nar, narrow]
  · simp [updV, tb_sI, tb_I, va_up, hq]
theorem tb_lastore {o : Nat} {i : Int32} {x : Int64} (hd : decode k.2.1 pc = .ok (.lastore, 1)) (hp : pc + 1 = pc') (hKo : tb_K M o = 104) (hin : vp_in i (tb_Ln M o)) (kk : tb_Wp E k d rc rs pc' L S (tb_sJ M o i.toNatClampNeg x) Q) : tb_Wp E k d rc rs pc L (.inr (.inr x) :: .inl i :: .inr (.inl o) :: S) M Q := by
  subst hp
  intro p e R s m args below meth c H locs cells slots mc ms ls C hl hH hS h1 h2 hR
  obtain ⟨r, rfl, hr, he⟩ := tb_cell hH (by rw [hKo]; omega)
  rw [tb_arrJ hKo] at he
  refine W.last C.1 C.2.1 (hH.1 r _ he) (((tb_cK C).2 4 _ rfl).1 (tb_Ln M (r + 1)) (fun j => .long (tb_J M (r + 1) j))) (fun q => by cases q) (by show ¬ (i < 0 ∨ (arrV _ _ _).slots.size ≤ _); rw [arrV_size]; exact hin) rfl rfl hd fun H1 e z oq => ?_
  refine kk p _ R s m args below meth c H1 _ cells slots mc ms ls C hl (tb_HR_set (M' := tb_sJ M (r + 1) i.toNatClampNeg x) hH hr z (fun q h => oq q (Nat.ne_of_lt (Nat.lt_of_lt_of_le h (Nat.le_add_right _ r)))) rfl rfl rfl (tb_arrJ (M := tb_sJ M (r + 1) i.toNatClampNeg x) hKo) (fun o ho => tb_ent_sJ ho) (hH.1.set (tb_ws_D E M) he ?_ oq)) (hS.put z oq (by show _ ≤ _; omega)) h1 h2 hR
  show H1[E.2.1.heap.size + r]? = some (vp_cell _ _)
  rw [e, vp_cell_l, vp_cell_l, arrV_store]
  congr 2
  funext q
  by_cases hq : q = i.toNatClampNeg
  · subst hq
    simp [updV, tb_sJ, tb_J, va_up]
  · simp [updV, tb_sJ, tb_J, va_up, hq]
theorem tb_aastore {C0 : String} {T : u_T} {N ci o t v : Nat} {i : Int32} (hd : decode k.2.1 pc = .ok (.aastore, 1)) (hp : pc + 1 = pc') (ht : 4 < t) (hty : tb_ty[t]? = some (.object C0)) (hc : tb_cl[ci]? = some (C0, T, N)) (hci : ci < 99) (hKo : tb_K M o = 100 + t) (hKv : tb_K M v = ci + 1) (hin : vp_in i (tb_Ln M o)) (kk : tb_Wp E k d rc rs pc' L S (tb_sR M o i.toNatClampNeg v) Q) : tb_Wp E k d rc rs pc L (.inr (.inl v) :: .inl i :: .inr (.inl o) :: S) M Q := by
  subst hp
  intro p e R s m args below meth c H locs cells slots mc ms ls C hl hH hS h1 h2 hR
  obtain ⟨r, rfl, hr, he⟩ := tb_cell hH (by rw [hKo]; omega)
  obtain ⟨rv, rfl, hrv, hev⟩ := tb_cell hH (o := v) (by rw [hKv]; omega)
  rw [tb_arrR hKo ht] at he
  rw [tb_obj hKv hci] at hev
  have hlt : i.toNatClampNeg < tb_Ln M (r + 1) := Nat.not_le.mp fun q => hin (Or.inr q)
  have h0 : ¬ i < 0 := fun q => hin (Or.inl q)
  obtain ⟨r', hr', cellV, g1, g2, g3, -⟩ := hH.1 rv _ hev
  have hcls := ((tb_cK C).1 ci _ hc).2
  obtain ⟨kA, comp, k1, k2, k3, -⟩ := ((tb_cK C).2 t (E.2.2.2.2 t, .object C0) (by simp [tb_tys, hty])).2
  have hcomp : comp = E.2.2.2.1.1 ci := Option.some.inj (k3.symm.trans hcls.1)
  subst hcomp
  obtain ⟨kC, hkC, -⟩ := hcls.2
  refine W.aast C.1 C.2.1 (hH.1 r _ he) (fun q h => by cases h) (fun h => by cases h) k1 k2 rfl hkC ⟨h0, by show _ < (arrV _ _ _).slots.size; rw [arrV_size]; exact hlt⟩ g1 (fun q h => by rw [g3] at h; cases h) (by rw [g2]; exact hkC) (by rw [g2]; exact va_assign hcls) rfl rfl hd fun H1 e z oq => ?_
  refine kk p _ R s m args below meth c H1 _ cells slots mc ms ls C hl (tb_HR_set (M' := tb_sR M (r + 1) i.toNatClampNeg (rv + 1)) hH hr z (fun q h => oq q (Nat.ne_of_lt (Nat.lt_of_lt_of_le h (Nat.le_add_right _ r)))) rfl rfl rfl (tb_arrR (M := tb_sR M (r + 1) i.toNatClampNeg (rv + 1)) hKo ht) (fun o ho => tb_ent_sR ho) (hH.1.set (tb_ws_D E M) he ?_ oq)) (hS.put z oq (by show _ ≤ _; omega)) h1 h2 hR
  show H1[E.2.1.heap.size + r]? = some (vp_cell _ _)
  rw [e, vp_cell_q, vp_cell_q, arrV_store]
  congr 2
  funext q
  by_cases hq : q = i.toNatClampNeg
  · subst hq
    simp [updV, tb_sR, tb_R, va_up, va_rf, tb_ro]
  · simp [updV, tb_sR, tb_R, va_up, hq]
end Mem
end
section
/-! Answers, entries, calls. -/
section Ends
variable {E : tb_E} {k : tb_MD} {d rc rs pc pc' : Nat} {L : List tb_L} {S : List tb_V} {M : tb_M} {Q : tb_O → tb_M → Prop}
theorem tb_cR {p : Program} {e : Env} {s : State} {m : MethodId} {meth : Method} {c : Code} (C : tb_Cx E k p e s m meth c) : meth.sig.returnType = k.2.2.2.1 := C.2.2.2.2.1
theorem tb_cL {p : Program} {e : Env} {s : State} {m : MethodId} {meth : Method} {c : Code} (C : tb_Cx E k p e s m meth c) : meth.locks = false := C.2.2.2.2.2.1
theorem tb_cT {p : Program} {e : Env} {s : State} {m : MethodId} {meth : Method} {c : Code} (C : tb_Cx E k p e s m meth c) : c.exceptionTable.toList.map (fun h => (h.startPc, h.endPc, h.handlerPc, h.catchType)) = k.2.2.2.2 := C.2.2.2.2.2.2.2.2.1
theorem tb_ireturn {x : Int32} {ty : FieldType} (hd : decode k.2.1 pc = .ok (.ireturn, 1)) (hr : k.2.2.2.1 = some ty) (hn : narrow ty (.int x) = .int x) (hQ : Q (.inl (some (.inl x))) M) : tb_Wp E k d rc rs pc L [.inl x] M Q := by
  intro p e R s m args below meth c H locs cells slots mc ms ls C hl hH hS h1 h2 hR
  refine W.widen (k := mc) (n := ms) (by omega) (by omega) ?_
  exact tb_W_mono (fun t h => tb_MQ_of h) (W.zret (Qc := fun _ => tb_Qc E Q) (free := tb_A E) C.1 C.2.1 ((tb_cR C).trans hr) hn (fun t ht hW => ⟨⟨.inl (some (.inl x)), M, hQ, rfl, by rw [ht]; exact hH⟩, hS.F ht⟩) hS.2.2 hd (hlocks := tb_cL C))
theorem tb_vreturn (hd : decode k.2.1 pc = .ok (.return_, 1)) (hr : k.2.2.2.1 = none) (hQ : Q (.inl none) M) : tb_Wp E k d rc rs pc L [] M Q := by
  intro p e R s m args below meth c H locs cells slots mc ms ls C hl hH hS h1 h2 hR
  refine W.widen (k := mc) (n := ms) (by omega) (by omega) ?_
  exact tb_W_mono (fun t h => tb_MQ_of h) (W.vret (Qc := fun _ => tb_Qc E Q) (free := tb_A E) C.1 C.2.1 ((tb_cR C).trans hr) (fun t ht hW => ⟨⟨.inl none, M, hQ, rfl, by rw [ht]; exact hH⟩, hS.F ht⟩) hS.2.2 hd (hlocks := tb_cL C))
theorem tb_areturn {r : Nat} {n : String} (hd : decode k.2.1 pc = .ok (.areturn, 1)) (hr : k.2.2.2.1 = some (.object n)) (hQ : Q (.inl (some (.inr (.inl r)))) M) : tb_Wp E k d rc rs pc L [.inr (.inl r)] M Q := by
  intro p e R s m args below meth c H locs cells slots mc ms ls C hl hH hS h1 h2 hR
  refine W.widen (k := mc) (n := ms) (by omega) (by omega) ?_
  exact tb_W_mono (fun t h => tb_MQ_of h) (W.aret (v := va_rf (tb_ro E r)) (Qc := fun _ => tb_Qc E Q) (free := tb_A E) C.1 C.2.1 ((tb_cR C).trans hr) (Or.inl ⟨_, rfl⟩) (va_rf_or _) (fun t ht hW => ⟨⟨.inl (some (.inr (.inl r))), M, hQ, rfl, by rw [ht]; exact hH⟩, hS.F ht⟩) hS.2.2 hd (hlocks := tb_cL C))
theorem tb_hw_spec {args : Array Value} {s : State} {m : MethodId} (h : (tb_hw k).before args s = true) (hn : s.methodNamed? k.1 = some m) : ∃ meth c, s.vm.method? m = some meth ∧ meth.code = some c ∧ c.code = k.2.1 ∧ c.maxLocals = k.2.2.1 ∧ meth.sig.returnType = k.2.2.2.1 ∧ meth.locks = false ∧ c.exceptionTable.toList.map (fun h => (h.startPc, h.endPc, h.handlerPc, h.catchType)) = k.2.2.2.2 ∧ parseMethodDescriptor k.1.desc = some meth.sig := by
  obtain ⟨y, b, n, r, hs⟩ := k
  cases hs with
  | nil =>
    obtain ⟨meth, c, h1, h2, h3, h4, h5, h6, h7, h8⟩ := Cond.code_spec hn (show (Cond.code y b n r).before args s = true from h)
    exact ⟨meth, c, h1, h2, h3, h4, h5, h6, by simpa using h7, h8⟩
  | cons a t =>
    obtain ⟨m', meth, c, h0, h1, h2, h3, h4, h5, h6, h7, h8⟩ := Cond.codeWith_spec (show (Cond.codeWith y b n r (a :: t)).before args s = true from h)
    cases hn.symm.trans h0
    exact ⟨meth, c, h1, h2, h3, h4, h6, h7, h5, h8⟩
/-- arguments as locals -/
def tb_al : List tb_V → List tb_L
  | [] => []
  | .inl x :: t => some (.inl x) :: tb_al t
  | .inr (.inl r) :: t => some (.inr r) :: tb_al t
  | .inr (.inr _) :: t => none :: tb_al t
def tb_nol : List tb_V → Bool
  | [] => true
  | .inl _ :: t => tb_nol t
  | .inr (.inl _) :: t => tb_nol t
  | .inr (.inr _) :: _ => false
theorem tb_lv_args (E : tb_E) : ∀ (A : List tb_V) (j n : Nat), tb_nol A = true → lv_args j (A.map (tv E)) = tb_lv E j (tb_al A ++ List.replicate n none) := by
  intro A
  induction A with
  | nil =>
    intro j n _
    have h : ∀ (n j : Nat), tb_lv E j (List.replicate n none) = [] := by
      intro n
      induction n with
      | zero => intro j; rfl
      | succ n ih => intro j; exact ih (j + 1)
    exact (h n j).symm
  | cons a t ih =>
    intro j n h
    rcases a with x | r | z
    · show (j, Value.int x) :: lv_args (j + 1) (t.map (tv E)) = _
      rw [ih (j + 1) n h]
      rfl
    · cases r with
      | zero =>
        show (j, Value.null) :: lv_args (j + 1) (t.map (tv E)) = _
        rw [ih (j + 1) n h]
        rfl
      | succ r =>
        show (j, Value.ref (E.2.1.heap.size + r)) :: lv_args (j + 1) (t.map (tv E)) = _
        rw [ih (j + 1) n h]
        rfl
    · cases h
theorem tb_sl_len (E : tb_E) : ∀ (A : List tb_V), tb_nol A = true → (lg_sl (A.map (tv E))).length = A.length := by
  intro A
  induction A with
  | nil => intro _; rfl
  | cons a t ih =>
    intro h
    rcases a with x | r | z
    · show (lg_sl (t.map (tv E))).length + 1 = _
      rw [ih h]; rfl
    · cases r with
      | zero =>
        show (lg_sl (t.map (tv E))).length + 1 = _
        rw [ih h]; rfl
      | succ r =>
        show (lg_sl (t.map (tv E))).length + 1 = _
        rw [ih h]; rfl
    · cases h
/-- a contract out of a walk from the entry -/
theorem tb_okOf {mc ms : Nat} {A : List tb_V} {L0 : List tb_L} (hG : tb_G E) (hy : plainName k.1.cls = true) (hA : tb_nol A = true) (hm : A.length ≤ k.2.2.1) (hL : tb_al A ++ List.replicate (k.2.2.1 - A.length) none = L0) (body : tb_Wp E k d mc ms 0 L0 [] M Q) : tb_Ok E k d mc ms A M Q := by
  refine tb_Ok0.ofW (cc := k.2.1) (maxL := k.2.2.1) (ret := k.2.2.2.1) hy ?_ ?_
  · intro args s m h hn
    obtain ⟨meth, c, h1, h2, h3, h4, h5, h6, -⟩ := tb_hw_spec (atoms_spec (ws := [tb_hw k]) h _ (List.mem_singleton.mpr rfl)) hn
    exact ⟨meth, c, h1, h2, h3, h4, h5, h6⟩
  · intro p e s m args below meth c s₁ B hml hP
    obtain ⟨rfl, hW, hH⟩ := hP
    have hcode := (Stand.of_body B).code
    obtain ⟨meth', c', g1, g2, -, -, -, -, g7, -⟩ := tb_hw_spec (atoms_spec (ws := [tb_hw k]) B.pre _ (List.mem_singleton.mpr rfl)) B.named
    cases B.method.symm.trans g1
    cases hcode.symm.trans g2
    have hl := lv_entry (A.map (tv E)) (n := k.2.2.1) (by rw [tb_sl_len E A hA]; exact hm)
    rw [tb_lv_args E A 0 (k.2.2.1 - A.length) hA, hL] at hl
    rw [lg_entry_eq]
    exact body p e _ s m _ below meth c s.heap [] 0 0 mc ms _ ⟨B.exec, B.bytes, hml, findClass_of_methodNamed B.named, B.returns, B.notSynchronized, (name_of_methodNamed B.named B.method).1, hW, g7, B.method, hcode, B.admits, hG⟩ hl hH va_S.rf (by omega) (by omega) ⟨Nat.le_refl _, Nat.le_refl _, Nat.le_refl _, Nat.le_refl _⟩
/-- what a call of k' from the class 'own' rests on -/
def tb_SB (k' : tb_MD) (n : Nat) : Prop := tb_I1 (tb_hw k') ∧ tb_I1 (Cond.initialized k'.1.cls) ∧ (k'.1.cls ≠ "java/lang/invoke/MethodHandle" ∧ k'.1.cls ≠ "java/lang/invoke/VarHandle") ∧ (parseMethodDescriptor k'.1.desc).map (fun d => d.parameters.length) = some n ∧ k'.2.2.1 ≤ 21 ∧ (Cond.onTables (tb_hw k') && Cond.keeps (tb_hw k')) = true
def tb_SV (own : String) (index ci : Nat) (k' : tb_MD) (n : Nat) : Prop := tb_SB k' n ∧ k'.2.2.2.2 = [] ∧ tb_I1 (Cond.methodLink own index k'.1) ∧ tb_I1 (Cond.instanceMethod k'.1) ∧ tb_I1 (Cond.selects k'.1.cls k'.1 k'.1) ∧ ci < 99 ∧ (tb_cl[ci]?).map (fun q => q.1) = some k'.1.cls
def tb_SVN (own : String) (index ci : Nat) (k' : tb_MD) (n : Nat) (host : String) : Prop := tb_SB k' n ∧ k'.2.2.2.2 = [] ∧ Cond.methodLinkNest own index k'.1 host ∈ tb_nest ∧ tb_I1 (Cond.instanceMethod k'.1) ∧ tb_I1 (Cond.selects k'.1.cls k'.1 k'.1) ∧ ci < 99 ∧ (tb_cl[ci]?).map (fun q => q.1) = some k'.1.cls
def tb_SS (own : String) (index : Nat) (k' : tb_MD) (n : Nat) : Prop := tb_SB k' n ∧ tb_I1 (Cond.methodLink own index k'.1) ∧ tb_I1 (Cond.static k'.1)
def tb_SSN (own : String) (index : Nat) (k' : tb_MD) (n : Nat) (host : String) : Prop := tb_SB k' n ∧ Cond.methodLinkNest own index k'.1 host ∈ tb_nest ∧ tb_I1 (Cond.static k'.1)
def tb_SI (own : String) (index : Nat) (k' : tb_MD) (n : Nat) : Prop := tb_SB k' n ∧ k'.2.2.2.2 = [] ∧ k'.2.2.2.1 = none ∧ k'.1.name = "<init>" ∧ tb_I1 (Cond.methodLink own index k'.1) ∧ tb_I1 (Cond.instanceMethod k'.1)
theorem tb_map_rev (E : tb_E) (A : List tb_V) (S : List tb_V) : (A.reverse ++ S).map (tv E) = (A.map (tv E)).reverse ++ S.map (tv E) := by
  rw [List.map_append, List.map_reverse]
theorem tb_cats {E : tb_E} : ∀ {S : List tb_V}, S.length ≤ 4 → ((S.map (tv E)).map fun v => v.category).sum ≤ 8 := by
  have h : ∀ S : List tb_V, ((S.map (tv E)).map fun v => v.category).sum ≤ 2 * S.length := by
    intro S
    induction S with
    | nil => simp
    | cons a t ih =>
      have hc := lv_cat (tv E a)
      simp only [List.map_cons, List.sum_cons, List.length_cons]
      omega
  intro S hS
  have := h S
  omega
theorem tb_parn {y : MethodName} {n : Nat} (h : (parseMethodDescriptor y.desc).map (fun d => d.parameters.length) = some n) : ∀ sig, parseMethodDescriptor y.desc = some sig → n = sig.parameters.length := by
  intro sig hs
  rw [hs] at h
  exact (Option.some.inj h).symm
end Ends
end
section
/-! The rules of calls. -/
section CallRules
variable {E : tb_E} {k : tb_MD} {d rc rs pc pc' : Nat} {L : List tb_L} {S : List tb_V} {M : tb_M} {Q : tb_O → tb_M → Prop}
theorem tb_leave {p : Program} {e : Env} {R : Room} {s : State} {m : MethodId} {args : Array Value} {below : List Frame} {meth : Method} {c : Code} {H' : Heap} {locs' : List Loc} {cells slots mc ms pc : Nat} {ls : Array Slot} {rest : List Value} {a x : Nat} {cell : Cell} {M' : tb_M}
    (C : tb_Cx E k p e s m meth c) (hno : k.2.2.2.2 = []) (hq : Q (.inr x) M') (hH : tb_HR E M' H') (hS : va_S (tb_A E) s.heap H' locs') (c1 : H'[a]? = some cell) (c2 : ∀ q, cell.vm ≠ .statics q) (c3 : s.vm.findClass (tb_xn x) = some cell.cls) (h1 : cells ≤ mc) (h2 : slots ≤ ms) :
    tb_WT p E.1 e R s m args below meth c H' locs' cells slots (tb_MQ below (tb_Qc E Q) s mc ms (tb_A E)) (F0 m pc ls rest) a := by
  intro T hT hWT X
  have hnil : c.exceptionTable.toList = [] := by
    have := tb_cT C
    rw [hno] at this
    exact List.map_eq_nil_iff.mp this
  obtain ⟨hwalk, hrun, hended, hWU, hsame⟩ := X.leaveThrown a (g := F0 m pc ls rest) rfl rfl rfl (fun x hx => by rw [hnil] at hx; cases hx) (hlocks := tb_cL C)
  refine ⟨T.setFrames (.throwing a :: below), hwalk, .threw a, hrun, hended, ⟨⟨.inr x, M', hq, ⟨a, rfl, cell, by show T.heap[a]? = _; rw [hT]; exact c1, c2, by show T.vm.findClass _ = _; rw [hWT.alike.findClass]; exact c3⟩, by show tb_HR E M' T.heap; rw [hT]; exact hH⟩, hS.F (by exact hT)⟩, locs', ⟨hWU, hsame.mono h1 h2⟩, hS.2.2⟩
theorem tb_hcode {p : Program} {e : Env} {s : State} {m : MethodId} {meth : Method} {c : Code} (C : tb_Cx E k p e s m meth c) {k' : tb_MD} (h : tb_I1 (tb_hw k')) (args : Array Value) : ∃ mk methM cM, s.methodNamed? k'.1 = some mk ∧ s.vm.method? mk = some methM ∧ methM.code = some cM ∧ cM.maxLocals = k'.2.2.1 ∧ parseMethodDescriptor k'.1.desc = some methM.sig := by
  have hw := tb_cw C args _ h
  have hn : ∃ mk, s.methodNamed? k'.1 = some mk := by
    obtain ⟨y, b, n, r, hs⟩ := k'
    cases hs with
    | nil => exact Cond.code_named (show (Cond.code y b n r).before args s = true from hw)
    | cons a t =>
      obtain ⟨m', -, -, h0, -⟩ := Cond.codeWith_spec (show (Cond.codeWith y b n r (a :: t)).before args s = true from hw)
      exact ⟨m', h0⟩
  obtain ⟨mk, hn⟩ := hn
  obtain ⟨meth', c', g1, g2, -, g4, -, -, -, g8⟩ := tb_hw_spec hw hn
  exact ⟨mk, meth', c', hn, g1, g2, g4, g8⟩
theorem tb_hcode0 {k' : tb_MD} (hh : k'.2.2.2.2 = []) : tb_hw k' = .code k'.1 k'.2.1 k'.2.2.1 k'.2.2.2.1 := by
  unfold tb_hw
  rw [hh]
theorem tb_callV {index ci n d' mc' ms' o : Nat} {k' : tb_MD} {A St : List tb_V} {Q' : tb_O → tb_M → Prop} (hs : tb_SV k.1.cls index ci k' n) (hd : decode k.2.1 pc = .ok (.invokevirtual index, 3)) (hp : pc + 3 = pc') (hSt : A.reverse ++ .inr (.inl o) :: S = St) (hn : A.length = n) (hS4 : S.length ≤ 4) (hKo : tb_K M o = ci + 1) (hdd : d' + 1 ≤ d) (hrc : mc' ≤ rc) (hrs : ms' ≤ rs) (hok : tb_Ok E k' d' mc' ms' (.inr (.inl o) :: A) M Q') (kr : ∀ v M', Q' (.inl v) M' → tb_Wp E k d (rc - mc') (rs - ms') pc' L (v.toList ++ S) M' Q) (kx : ∀ x M', Q' (.inr x) M' → k.2.2.2.2 = [] ∧ Q (.inr x) M') : tb_Wp E k d rc rs pc L St M Q := by
  subst hp; subst hSt
  intro p e R s m args below meth c H locs cells slots mc ms ls C hl hH hS h1 h2 hR
  obtain ⟨⟨b1, b2, b3, b4, b5, b6⟩, hh, w1, w2, w3, hci, hcl⟩ := hs
  have hts := tb_cw C args
  obtain ⟨r, rfl, hr, he⟩ := tb_cell hH (by rw [hKo]; omega)
  rw [tb_obj hKo hci] at he
  obtain ⟨q, hq, hqc⟩ := Option.map_eq_some_iff.mp hcl
  obtain ⟨cell, c1, c2, c3⟩ := va_recv (tb_cK C) hH.1 hq he
  rw [hqc] at c3
  have hcode := hts _ b1
  rw [tb_hcode0 hh] at hcode
  have hI := tb_InvV (l := E.1) (e := e) (R := R) (below := below) (meth := meth) (locs := locs) (cells := cells) (slots := slots) (g := F0 m pc ls ((A.reverse ++ .inr (.inl (r + 1)) :: S).map (tv E))) (argsL := A.map (tv E)) (rest := S.map (tv E)) C.1 (tb_cO C) (hts _ w1) (hts _ w2) (hts _ w3) hcode b3 c1 c2 c3 rfl (fun sig h => by rw [List.length_map, hn]; exact tb_parn b4 sig h) (tb_map_rev E A _) (by rw [C.2.1]; exact hd)
  refine tb_callW (k' := k') (A := .inr (.inl (r + 1)) :: A) (rest := S.map (tv E)) hI hok (tb_cW C) (hts _ b1) b6 (hts _ b2) hH hS (hl.1.trans C.2.2.1.symm) (tb_cats hS4) (by rw [C.2.1]; exact hd) hR hdd b5 (by omega) (by omega) ?_ ?_
  · intro v M' hQ H' locs' hH' hS'
    have hk := kr v M' hQ p e R s m args below meth c H' locs' (cells + mc') (slots + ms') mc ms ls C hl hH' hS' (by omega) (by omega) hR
    cases v <;> exact hk
  · intro x M' hQ H' locs' a cell hH' hS' c1 c2 c3
    obtain ⟨g1, g2⟩ := kx x M' hQ
    exact tb_leave C g1 g2 hH' hS' c1 c2 c3 (by omega) (by omega)
theorem tb_callVN {index ci n d' mc' ms' o : Nat} {host : String} {k' : tb_MD} {A St : List tb_V} {Q' : tb_O → tb_M → Prop} (hs : tb_SVN k.1.cls index ci k' n host) (hd : decode k.2.1 pc = .ok (.invokevirtual index, 3)) (hp : pc + 3 = pc') (hSt : A.reverse ++ .inr (.inl o) :: S = St) (hn : A.length = n) (hS4 : S.length ≤ 4) (hKo : tb_K M o = ci + 1) (hdd : d' + 1 ≤ d) (hrc : mc' ≤ rc) (hrs : ms' ≤ rs) (hok : tb_Ok E k' d' mc' ms' (.inr (.inl o) :: A) M Q') (kr : ∀ v M', Q' (.inl v) M' → tb_Wp E k d (rc - mc') (rs - ms') pc' L (v.toList ++ S) M' Q) (kx : ∀ x M', Q' (.inr x) M' → k.2.2.2.2 = [] ∧ Q (.inr x) M') : tb_Wp E k d rc rs pc L St M Q := by
  subst hp; subst hSt
  intro p e R s m args below meth c H locs cells slots mc ms ls C hl hH hS h1 h2 hR
  obtain ⟨⟨b1, b2, b3, b4, b5, b6⟩, hh, w1, w2, w3, hci, hcl⟩ := hs
  have hts := tb_cw C args
  obtain ⟨r, rfl, hr, he⟩ := tb_cell hH (by rw [hKo]; omega)
  rw [tb_obj hKo hci] at he
  obtain ⟨q, hq, hqc⟩ := Option.map_eq_some_iff.mp hcl
  obtain ⟨cell, c1, c2, c3⟩ := va_recv (tb_cK C) hH.1 hq he
  rw [hqc] at c3
  have hcode := hts _ b1
  rw [tb_hcode0 hh] at hcode
  have hI := tb_InvVN (l := E.1) (e := e) (R := R) (below := below) (meth := meth) (locs := locs) (cells := cells) (slots := slots) (g := F0 m pc ls ((A.reverse ++ .inr (.inl (r + 1)) :: S).map (tv E))) (argsL := A.map (tv E)) (rest := S.map (tv E)) C.1 (tb_cO C) (va_Nw.use rfl (tb_cNw C w1)) (hts _ w2) (hts _ w3) hcode b3 c1 c2 c3 rfl (fun sig h => by rw [List.length_map, hn]; exact tb_parn b4 sig h) (tb_map_rev E A _) (by rw [C.2.1]; exact hd)
  refine tb_callW (k' := k') (A := .inr (.inl (r + 1)) :: A) (rest := S.map (tv E)) hI hok (tb_cW C) (hts _ b1) b6 (hts _ b2) hH hS (hl.1.trans C.2.2.1.symm) (tb_cats hS4) (by rw [C.2.1]; exact hd) hR hdd b5 (by omega) (by omega) ?_ ?_
  · intro v M' hQ H' locs' hH' hS'
    have hk := kr v M' hQ p e R s m args below meth c H' locs' (cells + mc') (slots + ms') mc ms ls C hl hH' hS' (by omega) (by omega) hR
    cases v <;> exact hk
  · intro x M' hQ H' locs' a cell hH' hS' c1 c2 c3
    obtain ⟨g1, g2⟩ := kx x M' hQ
    exact tb_leave C g1 g2 hH' hS' c1 c2 c3 (by omega) (by omega)
theorem tb_callS {index n d' mc' ms' : Nat} {k' : tb_MD} {A St : List tb_V} {Q' : tb_O → tb_M → Prop} (hs : tb_SS k.1.cls index k' n) (hd : decode k.2.1 pc = .ok (.invokestatic index, 3)) (hp : pc + 3 = pc') (hSt : A.reverse ++ S = St) (hn : A.length = n) (hS4 : S.length ≤ 4) (hdd : d' + 1 ≤ d) (hrc : mc' ≤ rc) (hrs : ms' ≤ rs) (hok : tb_Ok E k' d' mc' ms' (A) M Q') (kr : ∀ v M', Q' (.inl v) M' → tb_Wp E k d (rc - mc') (rs - ms') pc' L (v.toList ++ S) M' Q) (kx : ∀ x M', Q' (.inr x) M' → k.2.2.2.2 = [] ∧ Q (.inr x) M') : tb_Wp E k d rc rs pc L St M Q := by
  subst hp; subst hSt
  intro p e R s m args below meth c H locs cells slots mc ms ls C hl hH hS h1 h2 hR
  obtain ⟨⟨b1, b2, b3, b4, b5, b6⟩, w1, w2⟩ := hs
  have hts := tb_cw C args
  have hI := tb_InvS (l := E.1) (e := e) (R := R) (below := below) (meth := meth) (H := H) (locs := locs) (cells := cells) (slots := slots) (g := F0 m pc ls ((A.reverse ++ S).map (tv E))) (argsL := A.map (tv E)) (rest := S.map (tv E)) C.1 (tb_cO C) (hts _ w1) (hts _ w2) (hts _ b2) (tb_hcode C b1 args) b3 rfl (fun sig h => by rw [List.length_map, hn]; exact tb_parn b4 sig h) (tb_map_rev E A _) (by rw [C.2.1]; exact hd)
  refine tb_callW (k' := k') (A := A) (rest := S.map (tv E)) hI hok (tb_cW C) (hts _ b1) b6 (hts _ b2) hH hS (hl.1.trans C.2.2.1.symm) (tb_cats hS4) (by rw [C.2.1]; exact hd) hR hdd b5 (by omega) (by omega) ?_ ?_
  · intro v M' hQ H' locs' hH' hS'
    have hk := kr v M' hQ p e R s m args below meth c H' locs' (cells + mc') (slots + ms') mc ms ls C hl hH' hS' (by omega) (by omega) hR
    cases v <;> exact hk
  · intro x M' hQ H' locs' a cell hH' hS' c1 c2 c3
    obtain ⟨g1, g2⟩ := kx x M' hQ
    exact tb_leave C g1 g2 hH' hS' c1 c2 c3 (by omega) (by omega)
theorem tb_callSN {index n d' mc' ms' : Nat} {host : String} {k' : tb_MD} {A St : List tb_V} {Q' : tb_O → tb_M → Prop} (hs : tb_SSN k.1.cls index k' n host) (hd : decode k.2.1 pc = .ok (.invokestatic index, 3)) (hp : pc + 3 = pc') (hSt : A.reverse ++ S = St) (hn : A.length = n) (hS4 : S.length ≤ 4) (hdd : d' + 1 ≤ d) (hrc : mc' ≤ rc) (hrs : ms' ≤ rs) (hok : tb_Ok E k' d' mc' ms' (A) M Q') (kr : ∀ v M', Q' (.inl v) M' → tb_Wp E k d (rc - mc') (rs - ms') pc' L (v.toList ++ S) M' Q) (kx : ∀ x M', Q' (.inr x) M' → k.2.2.2.2 = [] ∧ Q (.inr x) M') : tb_Wp E k d rc rs pc L St M Q := by
  subst hp; subst hSt
  intro p e R s m args below meth c H locs cells slots mc ms ls C hl hH hS h1 h2 hR
  obtain ⟨⟨b1, b2, b3, b4, b5, b6⟩, w1, w2⟩ := hs
  have hts := tb_cw C args
  have hI := tb_InvSN (l := E.1) (e := e) (R := R) (below := below) (meth := meth) (H := H) (locs := locs) (cells := cells) (slots := slots) (g := F0 m pc ls ((A.reverse ++ S).map (tv E))) (argsL := A.map (tv E)) (rest := S.map (tv E)) C.1 (tb_cO C) (va_Nw.use rfl (tb_cNw C w1)) (hts _ w2) (hts _ b2) (tb_hcode C b1 args) b3 rfl (fun sig h => by rw [List.length_map, hn]; exact tb_parn b4 sig h) (tb_map_rev E A _) (by rw [C.2.1]; exact hd)
  refine tb_callW (k' := k') (A := A) (rest := S.map (tv E)) hI hok (tb_cW C) (hts _ b1) b6 (hts _ b2) hH hS (hl.1.trans C.2.2.1.symm) (tb_cats hS4) (by rw [C.2.1]; exact hd) hR hdd b5 (by omega) (by omega) ?_ ?_
  · intro v M' hQ H' locs' hH' hS'
    have hk := kr v M' hQ p e R s m args below meth c H' locs' (cells + mc') (slots + ms') mc ms ls C hl hH' hS' (by omega) (by omega) hR
    cases v <;> exact hk
  · intro x M' hQ H' locs' a cell hH' hS' c1 c2 c3
    obtain ⟨g1, g2⟩ := kx x M' hQ
    exact tb_leave C g1 g2 hH' hS' c1 c2 c3 (by omega) (by omega)
theorem tb_callI {index n d' mc' ms' o : Nat} {k' : tb_MD} {A St : List tb_V} {Q' : tb_O → tb_M → Prop} (hs : tb_SI k.1.cls index k' n) (hd : decode k.2.1 pc = .ok (.invokespecial index, 3)) (hp : pc + 3 = pc') (hSt : A.reverse ++ .inr (.inl o) :: S = St) (hn : A.length = n) (hS4 : S.length ≤ 4) (hKo : tb_K M o ≠ 0) (hdd : d' + 1 ≤ d) (hrc : mc' ≤ rc) (hrs : ms' ≤ rs) (hok : tb_Ok E k' d' mc' ms' (.inr (.inl o) :: A) M Q') (kr : ∀ v M', Q' (.inl v) M' → tb_Wp E k d (rc - mc') (rs - ms') pc' L (v.toList ++ S) M' Q) (kx : ∀ x M', Q' (.inr x) M' → k.2.2.2.2 = [] ∧ Q (.inr x) M') : tb_Wp E k d rc rs pc L St M Q := by
  subst hp; subst hSt
  intro p e R s m args below meth c H locs cells slots mc ms ls C hl hH hS h1 h2 hR
  obtain ⟨⟨b1, b2, b3, b4, b5, b6⟩, hh, hret, hnm, w1, w2⟩ := hs
  have hts := tb_cw C args
  obtain ⟨r, rfl, hr, he⟩ := tb_cell hH hKo
  have hcode := hts _ b1
  rw [tb_hcode0 hh, hret] at hcode
  have hI := tb_InvI (l := E.1) (e := e) (R := R) (below := below) (meth := meth) (H := H) (locs := locs) (cells := cells) (slots := slots) (a := E.2.1.heap.size + r) (g := F0 m pc ls ((A.reverse ++ .inr (.inl (r + 1)) :: S).map (tv E))) (argsL := A.map (tv E)) (rest := S.map (tv E)) C.1 (tb_cO C) hnm (hts _ w1) (hts _ w2) hcode b3 rfl (fun sig h => by rw [List.length_map, hn]; exact tb_parn b4 sig h) (tb_map_rev E A _) (by rw [C.2.1]; exact hd)
  refine tb_callW (k' := k') (A := .inr (.inl (r + 1)) :: A) (rest := S.map (tv E)) hI hok (tb_cW C) (hts _ b1) b6 (hts _ b2) hH hS (hl.1.trans C.2.2.1.symm) (tb_cats hS4) (by rw [C.2.1]; exact hd) hR hdd b5 (by omega) (by omega) ?_ ?_
  · intro v M' hQ H' locs' hH' hS'
    have hk := kr v M' hQ p e R s m args below meth c H' locs' (cells + mc') (slots + ms') mc ms ls C hl hH' hS' (by omega) (by omega) hR
    cases v <;> exact hk
  · intro x M' hQ H' locs' a cell hH' hS' c1 c2 c3
    obtain ⟨g1, g2⟩ := kx x M' hQ
    exact tb_leave C g1 g2 hH' hS' c1 c2 c3 (by omega) (by omega)
end CallRules
end
section
/-! Making cells. -/
section New
variable {E : tb_E} {k : tb_MD} {d rc rs pc pc' : Nat} {L : List tb_L} {S : List tb_V} {M : tb_M} {Q : tb_O → tb_M → Prop}
theorem tb_ws_new {kind len : Nat} : tb_ws E (tb_new M kind len) = tb_ws E M ++ [(E.2.1.heap.size + tb_n M, tb_en E tb_ft kind len (fun _ => 0) (fun _ => 0) (fun _ => 0))] := by
  apply List.ext_getElem?
  intro i
  have e1 : (tb_ws E M).length = tb_n M := by simp [tb_ws]
  have e2 : (tb_ws E (tb_new M kind len)).length = tb_n M + 1 := by simp [tb_ws, tb_new, tb_n]
  rcases Nat.lt_trichotomy i (tb_n M) with h | h | h
  · rw [List.getElem?_append_left (by omega), tb_ws_get h, tb_ws_get (M := tb_new M kind len) (by show i < tb_n M + 1; omega)]
    have hne : ¬ i = tb_n M := by omega
    simp [tb_ent, tb_new, tb_K, tb_Ln, tb_I, tb_R, tb_J, va_up, hne]
  · subst h
    rw [List.getElem?_append_right (by omega), tb_ws_get (M := tb_new M kind len) (by show tb_n M < tb_n M + 1; omega), e1]
    simp [tb_ent, tb_new, tb_K, tb_Ln, tb_I, tb_R, tb_J, va_up]
  · rw [List.getElem?_eq_none (by omega), List.getElem?_eq_none (by simp; omega)]
/-- one more cell in the heap: the memory with one more -/
theorem tb_HR_new {kind len : Nat} {H H1 : Heap} (hk : kind ≠ 0) (hH : tb_HR E M H) (hu : tb_u M = true) (z1 : H1.size = H.size + 1) (o1 : ∀ q : Nat, q < H.size → H1[q]? = H[q]?) (hn : va_at E.2.2.2.1 tb_cl (H.size, tb_en E tb_ft kind len (fun _ => 0) (fun _ => 0) (fun _ => 0)) H1) : tb_HR E (tb_new M kind len) H1 := by
  obtain ⟨g1, g2, g3, g4, g5, g6⟩ := hH
  have hz := g6 hu
  refine ⟨?_, fun q h => (o1 q (by omega)).trans (g2 q h), ?_, ?_, by omega, fun _ => by show H1.size = _ + (tb_n M + 1); omega⟩
  · rw [tb_ws_new]
    refine (g1.kept (fun k x hx => o1 x.1 ((g1 k x hx).lt))).app (fun k x hx => ?_)
    have hz2 : k < 1 := (List.getElem?_eq_some_iff.mp hx).1
    rw [show k = 0 by omega] at hx
    cases hx
    rw [← hz]
    exact hn
  · have hne : ¬ 0 = tb_n M + 1 := by omega
    simp [tb_new, tb_K, va_up]
    exact g3
  · intro o ho
    have ho' : tb_n M + 1 < o := ho
    have hne : ¬ o = tb_n M + 1 := by omega
    show va_up (tb_K M) (tb_n M + 1) kind o = 0
    unfold va_up
    rw [if_neg hne]
    exact g4 o (by omega)
theorem tb_newO {C0 : String} {T : u_T} {N ci index : Nat} (hd : decode k.2.1 pc = .ok (.new index, 3)) (hp : pc + 3 = pc') (hc : tb_cl[ci]? = some (C0, T, N)) (hci : ci < 99) (hin : ∀ w ∈ u_ws C0 T N, tb_I1 w) (ty0 : Nat → FieldType) (hty : ∀ k, k < N → parseFieldDescriptor (T k).2.2.1 = some (ty0 k))
    (hfs : ∀ j, j < N → defaultValue (ty0 j) = vp_V (tb_fs E (fun _ => 0) (fun _ => 0) 0 ((tb_ft[ci]?).getD [])) j) (w1 : tb_I1 (Cond.classLink k.1.cls index C0)) (w2 : tb_I1 (Cond.instantiable C0 N)) (w3 : tb_I1 (Cond.initialized C0)) (hu : tb_u M = true) (hrc : 1 ≤ rc) (hrs : N ≤ rs)
    (kk : tb_Wp E k d (rc - 1) (rs - N) pc' L (.inr (.inl (tb_n M + 1)) :: S) (tb_new M (ci + 1) 0) Q) : tb_Wp E k d rc rs pc L S M Q := by
  subst hp
  intro p e R s m args below meth c H locs cells slots mc ms ls C hl hH hS h1 h2 hR
  have hts := tb_cw C args
  have hKn := (tb_cK C).1 ci _ hc
  have hz : H.size = E.2.1.heap.size + tb_n M := hH.2.2.2.2.2 hu
  refine W.newcK C.1 C.2.1 (tb_cO C) (hts _ w1) (hts _ w2) (hts _ w3) rfl hd (by have := hR.2.2.1; omega) (by have := hR.2.2.2; omega) hKn.2.1 hz fun H1 kC hkC e1 z1 o1 => ?_
  have hH1 : tb_HR E (tb_new M (ci + 1) 0) H1 := by
    refine tb_HR_new (by omega) hH hu (by omega) (fun q h => o1 q (by omega)) ?_
    unfold tb_en
    rw [if_pos (by omega), hz]
    exact ⟨_, hc, (u_born ty0 (fun w h => hts w (hin w h)) (fun _ h => h) hKn hkC e1 hty).to hfs⟩
  exact kk p e R s m args below meth c H1 locs (cells + 1) (slots + N) mc ms ls C hl hH1 ⟨Nat.le_trans hS.1 (by omega), fun x h3 h4 => (o1 x (by have := hS.1; omega)).trans (hS.2.1 x h3 h4), hS.2.2⟩ (by omega) (by omega) hR
theorem tb_newA {atype : ArrayType} {t N : Nat} {ty : FieldType} {n : Int32} (hd : decode k.2.1 pc = .ok (.newarray atype, 2)) (hp : pc + 2 = pc') (hty : newarray.typeOf atype = ty) (hnr : ∀ C, ty ≠ .object C) (ht : tb_ty[t]? = some ty) (hN : n.toNatClampNeg = N) (hn : ¬ n < 0) (hb : N * componentBytes ty ≤ 536870912) (w1 : tb_I1 (Cond.arrayClass ty)) (hen : ∀ cA : ClassId, E.2.2.2.2 t = cA → ∀ H1 : Heap, ∀ a : Nat, H1[a]? = some (arrV cA N (fun _ => defaultValue ty)) → va_at E.2.2.2.1 tb_cl (a, tb_en E tb_ft (100 + t) N (fun _ => 0) (fun _ => 0) (fun _ => 0)) H1) (hu : tb_u M = true) (hrc : 1 ≤ rc) (hrs : N ≤ rs)
    (kk : tb_Wp E k d (rc - 1) (rs - N) pc' L (.inr (.inl (tb_n M + 1)) :: S) (tb_new M (100 + t) N) Q) : tb_Wp E k d rc rs pc L (.inl n :: S) M Q := by
  subst hp; subst hty
  intro p e R s m args below meth c H locs cells slots mc ms ls C hl hH hS h1 h2 hR
  have hts := tb_cw C args
  have hz : H.size = E.2.1.heap.size + tb_n M := hH.2.2.2.2.2 hu
  refine va_newaK C.1 C.2.1 (hts _ w1) rfl hd rfl hn hN hb (by have := hR.2.2.1; omega) (by have := hR.2.2.2; omega) hz fun H1 cA e1 z1 o1 hAr hNm => ?_
  have hcA : E.2.2.2.2 t = cA := by
    have h := ((tb_cK C).2 t (E.2.2.2.2 t, newarray.typeOf atype) (by simp [tb_tys, ht])).2
    unfold va_RA at h
    cases hq : newarray.typeOf atype <;> rw [hq] at h hNm <;> first | exact absurd hq (hnr _) | exact Option.some.inj (h.symm.trans hNm)
  have hH1 : tb_HR E (tb_new M (100 + t) N) H1 := by
    refine tb_HR_new (by omega) hH hu (by omega) (fun q h => o1 q (by omega)) ?_
    rw [hz]
    exact hen cA hcA H1 _ e1
  exact kk p e R s m args below meth c H1 locs (cells + 1) (slots + N) mc ms ls C hl hH1 ⟨Nat.le_trans hS.1 (by omega), fun x h3 h4 => (o1 x (by have := hS.1; omega)).trans (hS.2.1 x h3 h4), hS.2.2⟩ (by omega) (by omega) hR
theorem tb_enI {t N : Nat} (ht : t < 4) (ty : FieldType) (hz : defaultValue ty = .int 0) : ∀ cA : ClassId, E.2.2.2.2 t = cA → ∀ H1 : Heap, ∀ a : Nat, H1[a]? = some (arrV cA N (fun _ => defaultValue ty)) → va_at E.2.2.2.1 tb_cl (a, tb_en E tb_ft (100 + t) N (fun _ => 0) (fun _ => 0) (fun _ => 0)) H1 := by
  intro cA hcA H1 a h
  unfold tb_en
  rw [if_neg (by omega), if_pos (by omega), show 100 + t - 100 = t by omega, hcA]
  show H1[a]? = some (vp_cell _ _)
  rw [vp_cell_i, h, hz]
theorem tb_enJ {N : Nat} : ∀ cA : ClassId, E.2.2.2.2 4 = cA → ∀ H1 : Heap, ∀ a : Nat, H1[a]? = some (arrV cA N (fun _ => defaultValue .long)) → va_at E.2.2.2.1 tb_cl (a, tb_en E tb_ft (100 + 4) N (fun _ => 0) (fun _ => 0) (fun _ => 0)) H1 := by
  intro cA hcA H1 a h
  unfold tb_en
  rw [if_neg (by omega), if_neg (by omega), if_pos rfl, hcA]
  show H1[a]? = some (vp_cell _ _)
  rw [vp_cell_l, h]
  rfl
theorem tb_newR {C0 : String} {t N index : Nat} {n : Int32} (hd : decode k.2.1 pc = .ok (.anewarray index, 3)) (hp : pc + 3 = pc') (ht4 : 4 < t) (ht : tb_ty[t]? = some (.object C0)) (hN : n.toNatClampNeg = N) (hn : ¬ n < 0) (hb : N * 4 ≤ 536870912) (w1 : tb_I1 (Cond.classLink k.1.cls index C0)) (w2 : Cond.arrayOver (.object C0) ∈ tb_nest) (hu : tb_u M = true) (hrc : 1 ≤ rc) (hrs : N ≤ rs)
    (kk : tb_Wp E k d (rc - 1) (rs - N) pc' L (.inr (.inl (tb_n M + 1)) :: S) (tb_new M (100 + t) N) Q) : tb_Wp E k d rc rs pc L (.inl n :: S) M Q := by
  subst hp; subst hN
  intro p e R s m args below meth c H locs cells slots mc ms ls C hl hH hS h1 h2 hR
  have hts := tb_cw C args
  have hz : H.size = E.2.1.heap.size + tb_n M := hH.2.2.2.2.2 hu
  refine W.anew C.1 C.2.1 (tb_cO C) (hts _ w1) (va_AO.use (A := args) (tb_cNw C w2)) rfl hd rfl hn hb (by have := hR.2.2.1; omega) (by have := hR.2.2.2; omega) fun cA kA comp f1 f2 f3 f4 => ?_
  generalize hH1 : H.push ({ cls := cA, slots := Array.replicate n.toNatClampNeg .null, vm := .none } : Cell) = H1
  have z1 : H1.size = H.size + 1 := by rw [← hH1, Array.size_push]
  have e1 : H1[H.size]? = some (arrV cA n.toNatClampNeg (fun _ => .null)) := by rw [← hH1, Array.getElem?_push_size, ← arrV_new]
  have o1 : ∀ q : Nat, q < H.size → H1[q]? = H[q]? := fun q hq => by rw [← hH1, Array.getElem?_push, if_neg (Nat.ne_of_lt hq)]
  have hcA : E.2.2.2.2 t = cA := by
    obtain ⟨kA', comp', -, -, -, h9⟩ := ((tb_cK C).2 t (E.2.2.2.2 t, .object C0) (by simp [tb_tys, ht])).2
    exact Option.some.inj (h9.symm.trans f1)
  have hHR : tb_HR E (tb_new M (100 + t) n.toNatClampNeg) H1 := by
    refine tb_HR_new (by omega) hH hu z1 o1 ?_
    unfold tb_en
    rw [if_neg (by omega), if_neg (by omega), if_neg (by omega), show 100 + t - 100 = t by omega, hcA]
    show H1[H.size]? = some (vp_cell _ _)
    rw [vp_cell_q, e1]
    rfl
  have hgoal := kk p e R s m args below meth c H1 locs (cells + 1) (slots + n.toNatClampNeg) mc ms ls C hl hHR ⟨Nat.le_trans hS.1 (by omega), fun x h3 h4 => (o1 x (by have := hS.1; omega)).trans (hS.2.1 x h3 h4), hS.2.2⟩ (by omega) (by omega) hR
  rw [hz]
  exact hgoal
theorem tb_objInit {index o : Nat} (hd : decode k.2.1 pc = .ok (.invokespecial index, 3)) (hp : pc + 3 = pc') (w1 : tb_I1 (Cond.methodLink k.1.cls index Lib.objectInit)) (w2 : tb_I1 (Cond.instanceMethod Lib.objectInit)) (w3 : tb_I1 (Cond.code Lib.objectInit ⟨#[0xb1]⟩ 1 none)) (hKo : tb_K M o ≠ 0) (hdd : 1 ≤ d) (hS4 : S.length ≤ 4)
    (kk : tb_Wp E k d rc rs pc' L S M Q) : tb_Wp E k d rc rs pc L (.inr (.inl o) :: S) M Q := by
  subst hp
  intro p e R s m args below meth c H locs cells slots mc ms ls C hl hH hS h1 h2 hR
  have hts := tb_cw C args
  obtain ⟨r, rfl, hr, he⟩ := tb_cell hH hKo
  have hcat := tb_cats (E := E) hS4
  exact W.objInit C.1 C.2.1 (tb_cO C) (hts _ w1) (hts _ w2) (hts _ w3) rfl (hl.1.trans C.2.2.1.symm) rfl hd (Nat.le_trans hdd hR.1) (by show 2 * 0 + _ + 12 ≤ R.locals; have := hR.2.1; omega) (kk p e R s m args below meth c H locs cells slots mc ms ls C hl hH hS h1 h2 hR)
end New
end
section
/-! A throw: the heap behind it is the heap before it, and one cell more. -/
section Throw
variable {p : Program} {l : Launch} {e : Env} {R : Room} {s : State} {m : MethodId} {args : Array Value} {below : List Frame} {meth : Method} {c : Code} {T : State} {locs : List Loc} {cells slots : Nat}
/-- the same invocation, as if it had begun with the heap of now -/
def tb_reb (s T : State) : State := { s with heap := T.heap, slotsUsed := T.slotsUsed }
theorem tb_rebase (X : Stand p l e R s m args below meth c T locs cells slots) {kc ks : Nat} (hc : cells + kc ≤ R.cells) (hs : slots + ks ≤ R.slots) : Stand p l e { R with cells := kc, slots := ks } (tb_reb s T) m args below meth c T [] 0 0 := by
  have hroom := X.room
  have hz := X.heapSize
  have hu := X.used
  have hb := X.book
  refine ⟨X.admits, X.cas, X.clock, X.frames, ?_, X.hears, X.method, X.code, X.here, X.tail, X.warmed, X.limits, X.bytes, ?_⟩
  · simp only [State.hasRoom, Bool.and_eq_true, decide_eq_true_eq] at hroom ⊢
    obtain ⟨⟨⟨⟨r1, r2⟩, r3⟩, r4⟩, r5⟩ := hroom
    refine ⟨⟨⟨⟨r1, r2⟩, ?_⟩, ?_⟩, hb⟩
    · show T.heap.size + kc ≤ _
      omega
    · show T.slotsUsed + ks ≤ _
      omega
  · refine ⟨X.same.1, Nat.le_refl _, Nat.le_add_right _ _, ?_, ?_, ?_⟩
    · show T.slotsUsed = T.slotsUsed + ((T.heap.toList.drop T.heap.size).map (·.slots.size)).sum
      rw [show T.heap.toList.drop T.heap.size = [] from by simp]
      rfl
    · show ((T.heap.toList.drop T.heap.size).map (·.slots.size)).sum ≤ 0
      rw [show T.heap.toList.drop T.heap.size = [] from by simp]
      exact Nat.le_refl _
    · intro a cell h
      exact ⟨cell, h, rfl, rfl, fun _ _ => rfl⟩
end Throw
theorem tb_static_moved {C n d : String} {s0 U : State} {A A' : Array Value} (hW : s0.WarmedH U.vm) (hq : ∀ q : Nat, q < s0.heap.size → U.heap[q]? = s0.heap[q]?) (h : (Cond.isRef (.static C n d)).before A s0 = true) : (Cond.isRef (.static C n d)).before A' U = true := by
  unfold Cond.before Cond.holds at h ⊢
  simp only [Cond.value] at h ⊢
  have he : ∀ v, (Term.static C n d).eval A s0 none [] s0 = some v → (Term.static C n d).eval A' U none [] U = some v := by
    intro v hv
    simp only [Term.eval, State.fieldNamed?, Option.bind_eq_bind, Option.bind_eq_some_iff, Prod.exists] at hv ⊢
    obtain ⟨c, k, sl, ⟨c2, k2, i2, f2, hf, hst⟩, a, ha, cell, hcell, hv⟩ := hv
    obtain ⟨k', hf', hk'⟩ := State.fieldFound?_setVm (s := s0) hW.alike hf
    have hfU : U.fieldFound? C n d = some (c2, k', i2, f2) := by simpa only [State.fieldFound?, State.vm_setVm] using hf'
    split at hst
    · rename_i hs
      cases hst
      refine ⟨_, k', _, ⟨_, k', i2, f2, hfU, by rw [if_pos hs]; rfl⟩, a, by rw [hk']; exact ha, cell, ?_, hv⟩
      rw [hq a (Array.getElem?_eq_some_iff.mp hcell).1]
      exact hcell
    · cases hst
  cases hv : (Term.static C n d).eval A s0 none [] s0 with
  | none => simp [hv] at h
  | some v =>
    rw [he v hv]
    rw [hv] at h
    exact h
/-- the words that a throw of cls by the entries of TracedBuild rests on -/
def tb_thw (ic : Nat) (cls : String) : List Cond := Bundle.ownAtoms0 "TracedBuild" ic cls ["java/lang/RuntimeException", "java/lang/Exception"]
def tb_cas : List String := ["java/lang/IllegalArgumentException", "java/lang/IllegalStateException", "java/lang/IndexOutOfBoundsException"]
def tb_dec : List String := ["java/lang/RuntimeException", "java/lang/Exception", "java/lang/Throwable"]
def tb_lst : List (String × String) := [("UNASSIGNED_STACK", "[Ljava/lang/StackTraceElement;"), ("SUPPRESSED_SENTINEL", "Ljava/util/List;")]
def tb_mov : List Cond := tb_cas.map (fun q => .castable q q) ++ (tb_dec.map (fun q => .declares ⟨q, "<init>", "()V"⟩) ++ tb_lst.map (fun q => .laysStatic "java/lang/Throwable" q.1 q.2))
theorem tb_mov_in : tb_mov.all (fun w => decide (w ∈ lw_tbl)) = true := by decide +kernel
theorem tb_lst_moved {n d : String} {s0 U : State} {A A' : Array Value} (hW : s0.WarmedH U.vm) (hq : ∀ q : Nat, q < s0.heap.size → U.heap[q]? = s0.heap[q]?) (h : (Cond.laysStatic "java/lang/Throwable" n d).before A s0 = true) : (Cond.laysStatic "java/lang/Throwable" n d).before A' U = true := by
  obtain ⟨c, k, i, fd, a, cell, hc, hf, hst, hsta, hcell, hiss, hcls, hlt, hty⟩ := Cond.laysStatic_spec h
  obtain ⟨k', hf', hk'⟩ := State.fieldFound?_setVm (s := s0) hW.alike hf
  have hfU : U.fieldFound? "java/lang/Throwable" n d = some (c, k', i, fd) := by simpa only [State.fieldFound?, State.vm_setVm] using hf'
  have hcU : U.vm.findClass "java/lang/Throwable" = some c := by rw [hW.alike.findClass]; exact hc
  have h1 : k'.statics = some a := by rw [hk']; exact hsta
  have h2 : k'.staticTypes = k.staticTypes := by rw [hk']
  have h3 : U.heap[a]? = some cell := by rw [hq a (Array.getElem?_eq_some_iff.mp hcell).1]; exact hcell
  unfold Cond.before Cond.holds
  simp [Cond.value, hcU, hfU, h1, h2, h3, hst, hiss, hcls, hlt, hty]
theorem tb_moved {w : Cond} (hw : w ∈ tb_mov) {s0 U : State} {A A' : Array Value} (hW : s0.WarmedH U.vm) (hq : ∀ q : Nat, q < s0.heap.size → U.heap[q]? = s0.heap[q]?) (h : w.before A s0 = true) : w.before A' U = true := by
  rcases List.mem_append.mp hw with hw | hw
  · obtain ⟨q, -, rfl⟩ := List.mem_map.mp hw
    exact va_Nw.use rfl (va_Nw.warmC hW (va_Nw.of rfl h))
  · rcases List.mem_append.mp hw with hw | hw
    · obtain ⟨q, -, rfl⟩ := List.mem_map.mp hw
      exact va_Nw.use rfl (va_Nw.warmD hW (va_Nw.of rfl h))
    · obtain ⟨q, -, rfl⟩ := List.mem_map.mp hw
      exact tb_lst_moved hW hq h
def tb_thok (ic : Nat) (cls : String) : Bool := (tb_thw ic cls).all (fun w => (decide (w ∈ lw_tbl) && goodWord w) || (decide (w ∈ tb_stw) || decide (w ∈ tb_mov)))
section Throw2
variable {E : tb_E} {k : tb_MD} {d rc rs pc : Nat} {L : List tb_L} {S : List tb_V} {M : tb_M} {Q : tb_O → tb_M → Prop}
theorem tb_thw_ok {ic : Nat} {cls : String} (h : tb_thok ic cls = true) (hG : tb_G E) {U : State} (hW : E.2.1.WarmedH U.vm) (hq : ∀ q : Nat, q < E.2.1.heap.size → U.heap[q]? = E.2.1.heap[q]?) (args : Array Value) : ∀ w ∈ tb_thw ic cls, w.before args U = true := by
  intro w hw
  have h1 := List.all_eq_true.mp h w hw
  rcases Bool.or_eq_true _ _ |>.mp h1 with h2 | h2
  · rw [Bool.and_eq_true] at h2
    exact tb_hts hG hW args w ⟨of_decide_eq_true h2.1, h2.2⟩
  · rcases Bool.or_eq_true _ _ |>.mp h2 with h2 | h2
    · have h3 : w ∈ tb_stw := of_decide_eq_true h2
      have h4 := hG.2.2.2.2.1 w h3
      rcases List.mem_cons.mp h3 with rfl | h5
      · exact tb_static_moved hW hq h4
      · rcases List.mem_cons.mp h5 with rfl | h6
        · exact tb_static_moved hW hq h4
        · cases h6
    · have h3 : w ∈ tb_mov := of_decide_eq_true h2
      exact tb_moved h3 hW hq (hG.1 w (of_decide_eq_true (List.all_eq_true.mp tb_mov_in w h3)))
set_option maxHeartbeats 1000000 in
/-- new X(); throw: four instructions -/
theorem tb_throw {inew ic x : Nat} (hd0 : decode k.2.1 pc = .ok (.new inew, 3)) (hd3 : decode k.2.1 (pc + 3) = .ok (.dup, 1)) (hd4 : decode k.2.1 (pc + 4) = .ok (.invokespecial ic, 3)) (hd7 : decode k.2.1 (pc + 7) = .ok (.athrow, 1))
    (hno : k.2.2.2.2 = []) (hcls : k.1.cls = "TracedBuild") (hok : tb_thok ic (tb_xn x) = true) (hfit : Bundle.fit (tb_xn x) = true) (w1 : tb_I1 (Cond.classLink "TracedBuild" inew (tb_xn x))) (w2 : tb_I1 (Cond.instantiable (tb_xn x) 6)) (w3 : tb_I1 (Cond.initialized (tb_xn x)))
    (hdd : 6 ≤ d) (hS4 : S.length ≤ 4) (hrc : 1 ≤ rc) (hrs : 6 ≤ rs) (hQ : Q (.inr x) (tb_un M)) : tb_Wp E k d rc rs pc L S M Q := by
  intro p e R s m args below meth c H locs cells slots mc ms ls C hl hH hS h1 h2 hR T hT X
  have hG := tb_cG C
  have hW := tb_cW C
  have X' := tb_rebase X (kc := 1) (ks := 6) (by have := hR.2.2.1; omega) (by have := hR.2.2.2; omega)
  have hW' : E.2.1.WarmedH (tb_reb s T).vm := hW
  have hown' : (tb_reb s T).vm.findClass "TracedBuild" = some m.cls := by rw [← hcls]; exact tb_cO C
  have hts' := fun (w : Cond) (hw : tb_I1 w) => tb_hts (s := tb_reb s T) hG hW' args w hw
  have hq' : ∀ q : Nat, q < E.2.1.heap.size → (tb_reb s T).heap[q]? = E.2.1.heap[q]? := fun q h => by
    show T.heap[q]? = _
    rw [hT]
    exact hH.2.1 q h
  have hatoms := tb_thw_ok hok hG hW' hq' args
  have htr : e.platform.stackTraces = false := by
    have ha : E.1.admits e := X.admits
    rw [ha.platform]
    exact hG.2.2.2.1
  obtain ⟨cX, kX, hcX, hkX, -⟩ := Cond.instantiable_spec (hts' _ w2)
  have hnil : c.exceptionTable.toList = [] := by
    have := tb_cT C
    rw [hno] at this
    exact List.map_eq_nil_iff.mp this
  have hcat := tb_cats (E := E) hS4
  have key : W p E.1 e { R with cells := 1, slots := 6 } (tb_reb s T) m args below meth c T.heap [] 0 0 (fun U => U.status = .running ∧ Ended U below (.threw T.heap.size) ∧ (tb_reb s T).WarmedH U.vm ∧ (tb_reb s T).sameButNew ({ U with vm := (tb_reb s T).vm } : State) [] 1 6 ∧ ∃ ce, U.heap[T.heap.size]? = some ce ∧ Bundle.OwnCell args (tb_reb s T) (tb_xn x) T.heap.size .null ce) (F0 m pc ls (S.map (tv E))) := by
    refine W.newcK C.1 C.2.1 hown' (hts' _ w1) (hts' _ w2) (hts' _ w3) rfl hd0 (Nat.le_refl 1) (Nat.le_refl 6) hcX rfl fun H1 kC hkC e1 z1 o1 => ?_
    refine lv_dup C.1 C.2.1 hd3 rfl ?_
    intro T2 hT2 X2
    obtain ⟨U, g1, g2, g3, g4, g5, g6⟩ := X2.ctorThrow0 C.1 htr (own := "TracedBuild") (cls := tb_xn x) (names := ["java/lang/RuntimeException", "java/lang/Exception"]) (ic := ic) hown' hfit (by decide +kernel) hatoms (fun y hy => by cases hy)
      (a := T.heap.size) (cX := cX) (kX := kC) hcX hkC (by rw [hT2]; exact e1) (Nat.le_refl _) (g := F0 m (pc + 3 + 1) ls (.ref T.heap.size :: .ref T.heap.size :: S.map (tv E))) rfl (hl.1.trans C.2.2.1.symm) rfl rfl (rest := S.map (tv E)) rfl
      (by rw [C.2.1]; exact hd4) (by rw [C.2.1]; exact hd7) (fun y hy => by rw [hnil] at hy; cases hy) (by show 2 + 3 < R.frames; have := hR.1; omega)
      (by show 2 * 0 + ((Value.ref _ :: S.map (tv E)).map fun v => v.category).sum + (13 * (2 + 1) + 41) ≤ R.locals
          rw [List.map_cons, List.sum_cons]
          show 2 * 0 + (1 + _) + _ ≤ _
          have := hR.2.1
          omega) (hlocks := tb_cL C)
    exact ⟨U, g1, g2, g3, g4, g5, g6⟩
  obtain ⟨U, st, g2, g3, g4, g5, ce, g6, g7⟩ := key T rfl X'
  have g4' : s.WarmedH U.vm := g4
  have hstep : (T.setVm s.vm).sameButNew ({ U with vm := s.vm } : State) [] 1 6 := by
    obtain ⟨q1, q2, q3, q4, q5, q6⟩ := g5
    refine ⟨q1.trans ?_, q2, q3, q4, q5, q6⟩
    have e1 := X.same.1
    have e2 : (T.setVm s.vm).setFrames ({ U with vm := s.vm } : State).frames = (({ s.setFrames (T.setVm s.vm).frames with heap := (T.setVm s.vm).heap, slotsUsed := (T.setVm s.vm).slotsUsed } : State)).setFrames ({ U with vm := s.vm } : State).frames := congrArg (fun z : State => z.setFrames ({ U with vm := s.vm } : State).frames) e1
    rw [e2]
    show ({ s.setFrames ({ U with vm := s.vm } : State).frames with heap := U.heap, slotsUsed := U.slotsUsed } : State) = { (s.setFrames (T.setVm s.vm).frames).setFrames ({ U with vm := s.vm } : State).frames with heap := U.heap, slotsUsed := U.slotsUsed }
    rw [State.setFrames_setFrames]
  have hsame : s.sameButNew ({ U with vm := s.vm } : State) locs (cells + 1) (slots + 6) := by
    have h9 := X.same.trans hstep
    simpa using h9
  have hold : ∀ q : Nat, q < T.heap.size → U.heap[q]? = T.heap[q]? := by
    intro q hq
    obtain ⟨c', r1, r2, r3, r4⟩ := g5.2.2.2.2.2 q T.heap[q] (by show T.heap[q]? = _; exact Array.getElem?_eq_getElem hq)
    have r1' : U.heap[q]? = some c' := r1
    rw [r1', Array.getElem?_eq_getElem hq, r2]
    have hs : c'.slots = T.heap[q].slots := by
      apply Array.ext_getElem?
      intro i
      exact r4 i (by simp)
    rw [hs]
  have hzU : T.heap.size ≤ U.heap.size := g5.2.1
  have hexc : tb_exc x T.heap.size U := by
    refine ⟨ce, g6, ?_, ?_⟩
    · intro q h
      rw [g7.vm] at h
      cases h
    · rw [g4'.alike.findClass]
      exact g7.cls
  refine ⟨U, st, .threw T.heap.size, g2, g3, ⟨⟨.inr x, tb_un M, hQ, ⟨T.heap.size, rfl, hexc⟩, ?_⟩, ?_⟩, locs, ⟨g4', hsame.mono (by omega) (by omega)⟩, hS.2.2⟩
  · obtain ⟨v1, v2, v3, v4, v5, v6⟩ := hH
    refine ⟨fun i q hq => ?_, fun q h => ?_, v3, v4, ?_, fun h => by cases h⟩
    · have hq2 : (tb_ws E M)[i]? = some q := hq
      have hlt := (v1 i q hq2).lt
      exact (v1 i q hq2).kept (by rw [hold _ (by rw [hT]; exact hlt), hT])
    · rw [hold q (by rw [hT]; omega), hT]
      exact v2 q h
    · rw [hT] at hzU
      omega
  · refine ⟨?_, fun q h3 h4 => ?_⟩
    · have := hS.1
      rw [hT] at hzU
      omega
    · have := hS.1
      rw [hold q (by rw [hT]; omega), hT]
      exact hS.2.1 q h3 h4
end Throw2
theorem tb_th1 : tb_thok 116 "java/lang/IllegalArgumentException" = true := by decide +kernel
theorem tb_th2 : tb_thok 70 "java/lang/IllegalStateException" = true := by decide +kernel
theorem tb_th3 : tb_thok 151 "java/lang/IndexOutOfBoundsException" = true := by decide +kernel
end
section
/-! A throw that is caught: the handler's class may be resolved only now. -/
section Catch
variable {e : Env} {s : State} {f : JFrame} {a : Addr} {Q : Handler → Pre} {E : CtlPost} {d : Bool} {acts : List Action}
theorem tb_go {x : ClassFile.ExceptionTableEntry} {t : List ClassFile.ExceptionTableEntry} {c : ClassId} {cell : Cell} {vm' : Vm} (hx : covers x f.pc = true) (h0 : x.catchType ≠ 0)
    (hg : (Jvm.resolveClass f.method.cls x.catchType).Gives e.toSetting s.vm (.ok c) vm') (hr : vm'.classReady f.method.cls x.catchType c) (hsz : vm'.classes.size ≤ s.vm.classes.size)
    (hcell : s.heap[a]? = some cell) (hobj : ∀ k, cell.vm ≠ .statics k) (hk : ∃ k, vm'.classes[cell.cls]? = some k) (hc : ∃ k, vm'.classes[c]? = some k) :
    wp (findHandler.go f a (x :: t)) Q E e d acts s ↔ if vm'.assignable cell.cls c = true then Q (.found x.handlerPc) d acts (s.setVm vm') else wp (findHandler.go f a t) Q E e d acts (s.setVm vm') := by
  simp only [covers] at hx
  obtain ⟨ha, ht⟩ := hg.op (op := VmOp.resolveClass f.method.cls x.catchType) rfl
  cases hfit : vm'.assignable cell.cls c <;>
    simp [findHandler.go, hx, h0, W.vmOp_same (VmOp.resolveClass f.method.cls x.catchType) (s := s) (e := e) (by rw [ht]; exact hsz), ha, ht, hcell, hobj, hk, hc, hfit, VmOp.dirties, VmOp.acts]
end Catch
section Catch2
variable {e : Env} {s target : State} {g : JFrame} {c : Code} {below : List Frame} {a : Addr} {tb : Tables}
def tb_Finds (e : Env) (s : State) (f : JFrame) (a : Addr) (h : Handler) (vm' : Vm) : Prop :=
  ∀ (Q : Handler → Pre) (E : CtlPost) (d : Bool) (acts : List Action), wp (findHandler f a) Q E e d acts s ↔ Q h d acts (s.setVm vm')
theorem tb_stepCatch {f : JFrame} {r : List Frame} {pc : Nat} {vm' : Vm} (hfind : tb_Finds e s f a (.found pc) vm') :
    (stepThrowing e s a (.java f :: r)).Is ((s.setVm vm').setFrames (.java { f with pc := pc, stack := [.ref a] } :: r)) [] := by
  simp only [stepThrowing, searchFrame, vmDo]
  generalize hr : Sem.go _ e false [] s = res
  obtain ⟨as, rfl, ha⟩ := Sem.eq_ok_of hr (a := Handler.found pc) (s' := s.setVm vm') (acts' := []) (by simp [hfind _ _ _ _])
  exact ⟨rfl, ha⟩
theorem tb_caught (h : At s g.method c below) {pc : Nat} {vm' : Vm} (hfind : tb_Finds e ((s.setTop g).pushFrame (.throwing a)) g a (.found pc) vm')
    (hrest : Steps tb e below ((s.setVm vm').setTop { g with pc := pc, stack := [.ref a] }) target) :
    Steps tb e below ((s.setTop g).pushFrame (.throwing a)) target := by
  obtain ⟨hgo, hw⟩ := h.throwing a
  refine Steps.head hgo hw ?_
  rw [stepThread_throwing (frames_entered h.top _), (tb_stepCatch (s := (s.setTop g).pushFrame (.throwing a)) hfind).1]
  obtain ⟨g₀, hg⟩ := Option.isSome_iff_exists.mp h.top
  obtain ⟨r, hr⟩ := State.topJava?_eq_some.mp hg
  have hr' : (s.setVm vm').frames = .java g₀ :: r := hr
  rw [State.setTop_of_frames _ hr'] at hrest
  rw [State.pushFrame, State.setTop_of_frames _ hr]
  have e1 : ((s.setFrames (.java g :: r)).setFrames (.throwing a :: (s.setFrames (.java g :: r)).frames)).setVm vm' = (s.setVm vm').setFrames (.throwing a :: (s.setFrames (.java g :: r)).frames) := by
    rw [State.setFrames_setFrames]; rfl
  rw [e1, State.setFrames_setFrames, hr]
  exact hrest
end Catch2
end
section
/-! The handlers of the law's helpers. -/
section Handlers
variable {E : tb_E} {k : tb_MD} {p : Program} {e : Env} {R : Room} {s : State} {m : MethodId} {args : Array Value} {below : List Frame} {meth : Method} {c : Code} {H' : Heap} {locs' : List Loc} {cells slots pc : Nat} {Q : State → Prop} {ls : Array Slot} {rest' : List Value} {a x : Nat} {cell : Cell}
theorem tb_selfcast (C : tb_Cx E k p e s m meth c) (hcm : Cond.castable (tb_xn x) (tb_xn x) ∈ lw_tbl) (c3 : s.vm.findClass (tb_xn x) = some cell.cls) : s.vm.assignable cell.cls cell.cls = true := by
  have h := va_Nw.use (A := #[]) rfl (va_Nw.warmC (tb_cW C) (va_Nw.of rfl ((tb_cG C).1 _ hcm)))
  obtain ⟨c1, t1, h1, h2, h3⟩ := Cond.castable_spec h
  cases Option.some.inj (h1.symm.trans c3)
  cases Option.some.inj (h2.symm.trans c3)
  exact h3
set_option maxHeartbeats 1000000 in
theorem tb_wt1 (C : tb_Cx E k p e s m meth c) {st en hp ct : Nat} {rest : List (Nat × Nat × Nat × Nat)} (hk : k.2.2.2.2 = (st, en, hp, ct) :: rest) (hcov : st ≤ pc ∧ pc < en) (h0 : ct ≠ 0) (w : tb_I1 (Cond.classLink k.1.cls ct (tb_xn x))) (hcm : Cond.castable (tb_xn x) (tb_xn x) ∈ lw_tbl)
    (c1 : H'[a]? = some cell) (c2 : ∀ q, cell.vm ≠ .statics q) (c3 : s.vm.findClass (tb_xn x) = some cell.cls) (kk : W p E.1 e R s m args below meth c H' locs' cells slots Q (F0 m hp ls [.ref a])) : tb_WT p E.1 e R s m args below meth c H' locs' cells slots Q (F0 m pc ls rest') a := by
  intro T hT hWT X
  have hpl : e.platform.magicAccessors = ({} : Platform).magicAccessors := by rw [X.admits.platform]
  obtain ⟨cc, hfc, hcl⟩ := Cond.classLink_spec (tb_cO C) (tb_cw C args _ w) e.platform hpl
  cases Option.some.inj (hfc.symm.trans c3)
  obtain ⟨hg₁, hwarm₁, hready₁⟩ := State.classEntry (e := e) X.warmed hcl
  have X' := X.noted hwarm₁
  obtain ⟨t, a1, b1⟩ := kk (T.setVm (T.vm.noted m.cls ct (.cls cell.cls))) hT X'
  refine ⟨t, tb_caught (s := T) (g := F0 m pc ls rest') X.here ?_ a1, b1⟩
  intro Q1 E1 d1 acts1
  have hmeth : ((T.setTop (F0 m pc ls rest')).pushFrame (.throwing a)).vm.method? (F0 m pc ls rest').method = some meth := by
    rw [Stand.throwing_vm]; exact X.method'
  rw [W.findHandler_eq hmeth X.code]
  have htab := tb_cT C
  rw [hk] at htab
  obtain ⟨y, t', hl, hy, ht'⟩ := List.map_eq_cons_iff.mp htab
  simp only [Prod.mk.injEq] at hy
  obtain ⟨y1, y2, y3, y4⟩ := hy
  subst y1; subst y2; subst y3; subst y4
  rw [hl]
  have hfcU : (T.vm.noted m.cls y.catchType (.cls cell.cls)).findClass (tb_xn x) = some cell.cls := by rw [hwarm₁.alike.findClass]; exact c3
  rw [tb_go (x := y) (vm' := T.vm.noted m.cls y.catchType (.cls cell.cls)) (c := cell.cls) (cell := cell) (by simp [covers, hcov.1, hcov.2]) h0 (by rw [Stand.throwing_vm]; exact hg₁) hready₁ (by rw [Stand.throwing_vm]; exact Nat.le_of_eq (hwarm₁.alike.2.1.trans X.warmed.alike.2.1.symm)) (by rw [Stand.throwing_heap, hT]; exact c1) c2 (Vm.classAt_of_findClass hfcU) (Vm.classAt_of_findClass hfcU)]
  rw [if_pos (by rw [hwarm₁.alike.assignable]; exact tb_selfcast C hcm c3)]
set_option maxHeartbeats 1000000 in
theorem tb_wt2 (C : tb_Cx E k p e s m meth c) {st en hp ct st1 en1 hp1 ct1 : Nat} {C1 : String} {rest : List (Nat × Nat × Nat × Nat)} (hk : k.2.2.2.2 = (st1, en1, hp1, ct1) :: (st, en, hp, ct) :: rest) (hcov1 : st1 ≤ pc ∧ pc < en1) (h01 : ct1 ≠ 0) (w1 : tb_I1 (Cond.classLink k.1.cls ct1 C1)) (hnc : (tb_xn x, C1) ∈ tb_nc) (hcov : st ≤ pc ∧ pc < en) (h0 : ct ≠ 0) (w : tb_I1 (Cond.classLink k.1.cls ct (tb_xn x))) (hcm : Cond.castable (tb_xn x) (tb_xn x) ∈ lw_tbl)
    (c1 : H'[a]? = some cell) (c2 : ∀ q, cell.vm ≠ .statics q) (c3 : s.vm.findClass (tb_xn x) = some cell.cls) (kk : W p E.1 e R s m args below meth c H' locs' cells slots Q (F0 m hp ls [.ref a])) : tb_WT p E.1 e R s m args below meth c H' locs' cells slots Q (F0 m pc ls rest') a := by
  intro T hT hWT X
  have hpl : e.platform.magicAccessors = ({} : Platform).magicAccessors := by rw [X.admits.platform]
  obtain ⟨cc1, hfc1, hcl1⟩ := Cond.classLink_spec (tb_cO C) (tb_cw C args _ w1) e.platform hpl
  obtain ⟨cc, hfc, hcl⟩ := Cond.classLink_spec (tb_cO C) (tb_cw C args _ w) e.platform hpl
  cases Option.some.inj (hfc.symm.trans c3)
  obtain ⟨hg₁, hwarm₁, hready₁⟩ := State.classEntry (e := e) X.warmed hcl1
  obtain ⟨hg₂, hwarm₂, hready₂⟩ := State.classEntry (e := e) hwarm₁ hcl
  have X' := X.noted hwarm₂
  have hno : s.vm.assignable cell.cls cc1 = false := by
    obtain ⟨z1, z2, q1, q2, q3⟩ := va_Nc.moved (tb_cW C).alike ((tb_cG C).2.2.2.2.2 _ hnc)
    cases Option.some.inj (q1.symm.trans c3)
    cases Option.some.inj (q2.symm.trans hfc1)
    exact q3
  obtain ⟨t, a1, b1⟩ := kk (T.setVm ((T.vm.noted m.cls ct1 (.cls cc1)).noted m.cls ct (.cls cell.cls))) hT X'
  refine ⟨t, tb_caught (s := T) (g := F0 m pc ls rest') X.here ?_ a1, b1⟩
  intro Q1 E1 d1 acts1
  have hmeth : ((T.setTop (F0 m pc ls rest')).pushFrame (.throwing a)).vm.method? (F0 m pc ls rest').method = some meth := by
    rw [Stand.throwing_vm]; exact X.method'
  rw [W.findHandler_eq hmeth X.code]
  have htab := tb_cT C
  rw [hk] at htab
  obtain ⟨y, t', hl, hy, ht'⟩ := List.map_eq_cons_iff.mp htab
  obtain ⟨z, t'', hl2, hz, -⟩ := List.map_eq_cons_iff.mp ht'
  simp only [Prod.mk.injEq] at hy hz
  obtain ⟨y1, y2, y3, y4⟩ := hy
  obtain ⟨z1, z2, z3, z4⟩ := hz
  subst y1; subst y2; subst y3; subst y4
  subst z1; subst z2; subst z3; subst z4
  rw [hl, hl2]
  have hf1 : (T.vm.noted m.cls y.catchType (.cls cc1)).findClass (tb_xn x) = some cell.cls := by rw [hwarm₁.alike.findClass]; exact c3
  have hf1' : (T.vm.noted m.cls y.catchType (.cls cc1)).findClass C1 = some cc1 := by rw [hwarm₁.alike.findClass]; exact hfc1
  have hf2 : ((T.vm.noted m.cls y.catchType (.cls cc1)).noted m.cls z.catchType (.cls cell.cls)).findClass (tb_xn x) = some cell.cls := by rw [hwarm₂.alike.findClass]; exact c3
  rw [tb_go (x := y) (vm' := T.vm.noted m.cls y.catchType (.cls cc1)) (c := cc1) (cell := cell) (by simp [covers, hcov1.1, hcov1.2]) h01 (by rw [Stand.throwing_vm]; exact hg₁) hready₁ (by rw [Stand.throwing_vm]; exact Nat.le_of_eq (hwarm₁.alike.2.1.trans X.warmed.alike.2.1.symm)) (by rw [Stand.throwing_heap, hT]; exact c1) c2 (Vm.classAt_of_findClass hf1) (Vm.classAt_of_findClass hf1')]
  rw [if_neg (by rw [hwarm₁.alike.assignable, hno]; decide)]
  rw [tb_go (x := z) (vm' := (T.vm.noted m.cls y.catchType (.cls cc1)).noted m.cls z.catchType (.cls cell.cls)) (c := cell.cls) (cell := cell) (by simp [covers, hcov.1, hcov.2]) h0 hg₂ hready₂ (Nat.le_of_eq (hwarm₂.alike.2.1.trans hwarm₁.alike.2.1.symm)) (by show ((T.setTop (F0 m pc ls rest')).pushFrame (.throwing a)).heap[a]? = _; rw [Stand.throwing_heap, hT]; exact c1) c2 (Vm.classAt_of_findClass hf2) (Vm.classAt_of_findClass hf2)]
  rw [if_pos (by rw [hwarm₂.alike.assignable]; exact tb_selfcast C hcm c3)]
  exact Iff.rfl
end Handlers
/-- the handler of exception x at pc, in k's table -/
def tb_Hd (k : tb_MD) (pc x hp : Nat) : Prop := ∃ ct, ct ≠ 0 ∧ tb_I1 (Cond.classLink k.1.cls ct (tb_xn x)) ∧ Cond.castable (tb_xn x) (tb_xn x) ∈ lw_tbl ∧
  ((∃ st en rest, k.2.2.2.2 = (st, en, hp, ct) :: rest ∧ st ≤ pc ∧ pc < en) ∨
   ∃ st1 en1 hp1 ct1 C1 st en rest, k.2.2.2.2 = (st1, en1, hp1, ct1) :: (st, en, hp, ct) :: rest ∧ (st1 ≤ pc ∧ pc < en1) ∧ ct1 ≠ 0 ∧ tb_I1 (Cond.classLink k.1.cls ct1 C1) ∧ (tb_xn x, C1) ∈ tb_nc ∧ st ≤ pc ∧ pc < en)
theorem tb_stored0 {E : tb_E} {ls : Array Slot} {nL : Nat} {L : List tb_L} {i : Nat} {v : Value} (h : lv_has ls nL ((i, v) :: (tb_lv E 0 L).filter (fun q => !(q.1 == i) && !(q.1 + 1 == i && q.2.category == 2)))) : lv_has ls nL (tb_lv E 0 (L.set i none)) := by
  refine ⟨h.1, h.2.1, fun q hq => ?_⟩
  obtain ⟨n, w, h1, h2, h3⟩ := (tb_lv_mem E _ 0 q.1 q.2).mp hq
  have hq' : q.1 = n := by omega
  apply h.2.2
  by_cases e : n = i
  · subst e
    rw [List.getElem?_set] at h1
    simp at h1
  · rw [List.getElem?_set, if_neg (fun z => e z.symm)] at h1
    refine List.mem_cons.mpr (Or.inr (List.mem_filter.mpr ⟨(tb_lv_mem E L 0 q.1 q.2).mpr ⟨n, w, h1, h2, h3⟩, ?_⟩))
    have hc : (q.2.category == 2) = false := by rw [h3, tb_lt_cat]; rfl
    simp [hq', e, hc]
section CallC
variable {E : tb_E} {k : tb_MD} {d rc rs pc pc' : Nat} {L : List tb_L} {S : List tb_V} {M : tb_M} {Q : tb_O → tb_M → Prop}
theorem tb_callVC {index ci n d' mc' ms' o : Nat} {k' : tb_MD} {A St : List tb_V} {Q' : tb_O → tb_M → Prop} (hs : tb_SV k.1.cls index ci k' n) (hd : decode k.2.1 pc = .ok (.invokevirtual index, 3)) (hp : pc + 3 = pc') (hSt : A.reverse ++ .inr (.inl o) :: S = St) (hn : A.length = n) (hS4 : S.length ≤ 4) (hKo : tb_K M o = ci + 1) (hdd : d' + 1 ≤ d) (hrc : mc' ≤ rc) (hrs : ms' ≤ rs) (hok : tb_Ok E k' d' mc' ms' (.inr (.inl o) :: A) M Q') (kr : ∀ v M', Q' (.inl v) M' → tb_Wp E k d (rc - mc') (rs - ms') pc' L (v.toList ++ S) M' Q) (kx : ∀ x M', Q' (.inr x) M' → ∃ (hp : Nat) (i : Fin 4), tb_Hd k pc x hp ∧ decode k.2.1 hp = .ok (.astore_n i, 1) ∧ (i : Nat) < k.2.2.1 ∧ tb_Wp E k d (rc - mc') (rs - ms') (hp + 1) (L.set (i : Nat) none) [] M' Q) : tb_Wp E k d rc rs pc L St M Q := by
  subst hp; subst hSt
  intro p e R s m args below meth c H locs cells slots mc ms ls C hl hH hS h1 h2 hR
  obtain ⟨⟨b1, b2, b3, b4, b5, b6⟩, hh, w1, w2, w3, hci, hcl⟩ := hs
  have hts := tb_cw C args
  obtain ⟨r, rfl, hr, he⟩ := tb_cell hH (by rw [hKo]; omega)
  rw [tb_obj hKo hci] at he
  obtain ⟨q, hq, hqc⟩ := Option.map_eq_some_iff.mp hcl
  obtain ⟨cell, c1, c2, c3⟩ := va_recv (tb_cK C) hH.1 hq he
  rw [hqc] at c3
  have hcode := hts _ b1
  rw [tb_hcode0 hh] at hcode
  have hI := tb_InvV (l := E.1) (e := e) (R := R) (below := below) (meth := meth) (locs := locs) (cells := cells) (slots := slots) (g := F0 m pc ls ((A.reverse ++ .inr (.inl (r + 1)) :: S).map (tv E))) (argsL := A.map (tv E)) (rest := S.map (tv E)) C.1 (tb_cO C) (hts _ w1) (hts _ w2) (hts _ w3) hcode b3 c1 c2 c3 rfl (fun sig h => by rw [List.length_map, hn]; exact tb_parn b4 sig h) (tb_map_rev E A _) (by rw [C.2.1]; exact hd)
  refine tb_callW (k' := k') (A := .inr (.inl (r + 1)) :: A) (rest := S.map (tv E)) hI hok (tb_cW C) (hts _ b1) b6 (hts _ b2) hH hS (hl.1.trans C.2.2.1.symm) (tb_cats hS4) (by rw [C.2.1]; exact hd) hR hdd b5 (by omega) (by omega) ?_ ?_
  · intro v M' hQ H' locs' hH' hS'
    have hk := kr v M' hQ p e R s m args below meth c H' locs' (cells + mc') (slots + ms') mc ms ls C hl hH' hS' (by omega) (by omega) hR
    cases v <;> exact hk
  · intro x M' hQ H' locs' a cell hH' hS' c1 c2 c3
    obtain ⟨hp, i, hHd, hdi, hi, hk⟩ := kx x M' hQ
    have hw : W p E.1 e R s m args below meth c H' locs' (cells + mc') (slots + ms') (tb_MQ below (tb_Qc E Q) s mc ms (tb_A E)) (F0 m hp ls [.ref a]) :=
      lv_astore_n C.1 C.2.1 hdi rfl hl hi rfl (fun ls' hl' => hk p e R s m args below meth c H' locs' (cells + mc') (slots + ms') mc ms ls' C (tb_stored0 hl') hH' hS' (by omega) (by omega) hR)
    obtain ⟨ct, h0, w9, hcm, ⟨st, en, rest, hk9, hc1, hc2⟩ | ⟨st1, en1, hp1, ct1, C1, st, en, rest, hk9, hcv1, h01, w91, hnc, hc1, hc2⟩⟩ := hHd
    · exact tb_wt1 C hk9 ⟨hc1, hc2⟩ h0 w9 hcm c1 c2 c3 hw
    · exact tb_wt2 C hk9 hcv1 h01 w91 hnc ⟨hc1, hc2⟩ h0 w9 hcm c1 c2 c3 hw
end CallC
end
section
/-! Switches, long comparisons, Math.min, the constructor of a nest mate. -/
section More
variable {E : tb_E} {k : tb_MD} {d rc rs pc pc' : Nat} {L : List tb_L} {S : List tb_V} {M : tb_M} {Q : tb_O → tb_M → Prop}
theorem tb_lookup {dflt : Int} {ps : Array (Int × Int)} {len : Nat} {x : Int32} (off : Int) (tg : Nat) (hd : decode k.2.1 pc = .ok (.lookupswitch dflt ps, len)) (hp : (ps.toList.zip (ps.toList.drop 1)).all (fun (a, next) => a.1 < next.1) = true) (ho : Op.lookupswitch.offset ps.toList dflt x.toInt = off) (ht : (pc : Int) + off = (tg : Int)) (kk : tb_Wp E k d rc rs tg L S M Q) : tb_Wp E k d rc rs pc L (.inl x :: S) M Q := by
  intro p e R s m args below meth c H locs cells slots mc ms ls C hl hH hS h1 h2 hR
  exact lv_lookup C.1 C.2.1 hd hp ho ht (kk p e R s m args below meth c H locs cells slots mc ms ls C hl hH hS h1 h2 hR)
theorem tb_tableOut {dflt lo hi : Int} {offs : Array Int} {len : Nat} {x : Int32} (tg : Nat) (hd : decode k.2.1 pc = .ok (.tableswitch dflt lo hi offs, len)) (h : x.toInt < lo ∨ hi < x.toInt) (ht : (pc : Int) + dflt = (tg : Int)) (kk : tb_Wp E k d rc rs tg L S M Q) : tb_Wp E k d rc rs pc L (.inl x :: S) M Q := by
  intro p e R s m args below meth c H locs cells slots mc ms ls C hl hH hS h1 h2 hR
  exact lv_tableOut C.1 C.2.1 hd h ht (kk p e R s m args below meth c H locs cells slots mc ms ls C hl hH hS h1 h2 hR)
theorem tb_tableIn {dflt lo hi : Int} {offs : Array Int} {len : Nat} {x : Int32} (off : Int) (tg : Nat) (hd : decode k.2.1 pc = .ok (.tableswitch dflt lo hi offs, len)) (g1 : ¬ x.toInt < lo) (g2 : ¬ hi < x.toInt) (ho : offs[(x.toInt - lo).toNat]? = some off) (ht : (pc : Int) + off = (tg : Int)) (kk : tb_Wp E k d rc rs tg L S M Q) : tb_Wp E k d rc rs pc L (.inl x :: S) M Q := by
  intro p e R s m args below meth c H locs cells slots mc ms ls C hl hH hS h1 h2 hR
  exact lv_tableIn C.1 C.2.1 hd g1 g2 ho ht (kk p e R s m args below meth c H locs cells slots mc ms ls C hl hH hS h1 h2 hR)
theorem tb_lcmp {x y : Int64} (hd : decode k.2.1 pc = .ok (.lcmp, 1)) (hp : pc + 1 = pc') (kk : tb_Wp E k d rc rs pc' L (.inl (lg_cmp x y) :: S) M Q) : tb_Wp E k d rc rs pc L (.inr (.inr y) :: .inr (.inr x) :: S) M Q := by
  subst hp
  intro p e R s m args below meth c H locs cells slots mc ms ls C hl hH hS h1 h2 hR
  exact W.lcmp C.1 C.2.1 hd (kk p e R s m args below meth c H locs cells slots mc ms ls C hl hH hS h1 h2 hR)
theorem tb_mmin {index : Nat} {x y : Int32} (hd : decode k.2.1 pc = .ok (.invokestatic index, 3)) (hp : pc + 3 = pc') (w1 : tb_I1 (Cond.methodLink k.1.cls index Lib.Math.min.name)) (w2 : tb_I1 (Cond.static Lib.Math.min.name)) (w3 : tb_I1 (Cond.initialized "java/lang/Math")) (w4 : tb_I1 (Cond.code Lib.Math.min.name Lib.Math.min.code 2 (some .int))) (hdd : 1 ≤ d) (hS4 : S.length ≤ 4) (kk : tb_Wp E k d rc rs pc' L (.inl (if y < x then y else x) :: S) M Q) : tb_Wp E k d rc rs pc L (.inl y :: .inl x :: S) M Q := by
  subst hp
  intro p e R s m args below meth c H locs cells slots mc ms ls C hl hH hS h1 h2 hR
  have hcat := tb_cats (E := E) hS4
  exact va_mmin C.1 C.2.1 (C.2.2.1.trans hl.1.symm) (tb_cO C) (tb_cw C args _ w1) (tb_cw C args _ w2) (tb_cw C args _ w3) (tb_cw C args _ w4) (Nat.le_trans hdd hR.1) (by have := hR.2.1; omega) (by have := hR.2.2.1; omega) (by have := hR.2.2.2; omega) hd (kk p e R s m args below meth c H locs cells slots mc ms ls C hl hH hS h1 h2 hR)
def tb_SIN (own : String) (index : Nat) (k' : tb_MD) (n : Nat) (host : String) : Prop := tb_SB k' n ∧ k'.2.2.2.2 = [] ∧ k'.2.2.2.1 = none ∧ k'.1.name = "<init>" ∧ Cond.methodLinkNest own index k'.1 host ∈ tb_nest ∧ tb_I1 (Cond.instanceMethod k'.1)
theorem tb_callIN {host : String} {index n d' mc' ms' o : Nat} {k' : tb_MD} {A St : List tb_V} {Q' : tb_O → tb_M → Prop} (hs : tb_SIN k.1.cls index k' n host) (hd : decode k.2.1 pc = .ok (.invokespecial index, 3)) (hp : pc + 3 = pc') (hSt : A.reverse ++ .inr (.inl o) :: S = St) (hn : A.length = n) (hS4 : S.length ≤ 4) (hKo : tb_K M o ≠ 0) (hdd : d' + 1 ≤ d) (hrc : mc' ≤ rc) (hrs : ms' ≤ rs) (hok : tb_Ok E k' d' mc' ms' (.inr (.inl o) :: A) M Q') (kr : ∀ v M', Q' (.inl v) M' → tb_Wp E k d (rc - mc') (rs - ms') pc' L (v.toList ++ S) M' Q) (kx : ∀ x M', Q' (.inr x) M' → k.2.2.2.2 = [] ∧ Q (.inr x) M') : tb_Wp E k d rc rs pc L St M Q := by
  subst hp; subst hSt
  intro p e R s m args below meth c H locs cells slots mc ms ls C hl hH hS h1 h2 hR
  obtain ⟨⟨b1, b2, b3, b4, b5, b6⟩, hh, hret, hnm, w1, w2⟩ := hs
  have hts := tb_cw C args
  obtain ⟨r, rfl, hr, he⟩ := tb_cell hH hKo
  have hcode := hts _ b1
  rw [tb_hcode0 hh, hret] at hcode
  have hI := tb_InvIN (l := E.1) (e := e) (R := R) (below := below) (meth := meth) (H := H) (locs := locs) (cells := cells) (slots := slots) (a := E.2.1.heap.size + r) (g := F0 m pc ls ((A.reverse ++ .inr (.inl (r + 1)) :: S).map (tv E))) (argsL := A.map (tv E)) (rest := S.map (tv E)) C.1 (tb_cO C) hnm (va_Nw.use rfl (tb_cNw C w1)) (hts _ w2) hcode b3 rfl (fun sig h => by rw [List.length_map, hn]; exact tb_parn b4 sig h) (tb_map_rev E A _) (by rw [C.2.1]; exact hd)
  refine tb_callW (k' := k') (A := .inr (.inl (r + 1)) :: A) (rest := S.map (tv E)) hI hok (tb_cW C) (hts _ b1) b6 (hts _ b2) hH hS (hl.1.trans C.2.2.1.symm) (tb_cats hS4) (by rw [C.2.1]; exact hd) hR hdd b5 (by omega) (by omega) ?_ ?_
  · intro v M' hQ H' locs' hH' hS'
    have hk := kr v M' hQ p e R s m args below meth c H' locs' (cells + mc') (slots + ms') mc ms ls C hl hH' hS' (by omega) (by omega) hR
    cases v <;> exact hk
  · intro x M' hQ H' locs' a cell hH' hS' c1 c2 c3
    obtain ⟨g1, g2⟩ := kx x M' hQ
    exact tb_leave C g1 g2 hH' hS' c1 c2 c3 (by omega) (by omega)
end More
end
section
/-! What fields and calls rest on: laid by program. -/
theorem tb_ix (n : Nat) {w : Cond} (h : lw_tbl[n]? = some w) (hg : goodWord w = true) : tb_I1 w := ⟨List.mem_of_getElem? h, hg⟩
theorem tb_inOf {ws : List Cond} (h : ws.all (fun w => decide (w ∈ lw_tbl) && goodWord w) = true) : ∀ w ∈ ws, tb_I1 w := fun w hw => by
  have h1 := List.all_eq_true.mp h w hw
  rw [Bool.and_eq_true] at h1
  exact ⟨of_decide_eq_true h1.1, h1.2⟩
theorem in_De : ∀ w ∈ u_ws n_De T_De 7, tb_I1 w := tb_inOf (by decide +kernel)
theorem in_Lg : ∀ w ∈ u_ws n_Lg T_Lg 7, tb_I1 w := tb_inOf (by decide +kernel)
theorem in_Sc : ∀ w ∈ u_ws n_Sc T_Sc 2, tb_I1 w := tb_inOf (by decide +kernel)
theorem in_Sh : ∀ w ∈ u_ws n_Sh T_Sh 2, tb_I1 w := tb_inOf (by decide +kernel)
theorem in_St : ∀ w ∈ u_ws n_St T_St 2, tb_I1 w := tb_inOf (by decide +kernel)
theorem in_Tx : ∀ w ∈ u_ws n_Tx T_Tx 2, tb_I1 w := tb_inOf (by decide +kernel)
theorem in_Tr : ∀ w ∈ u_ws n_Tr T_Tr 5, tb_I1 w := tb_inOf (by decide +kernel)
theorem in_TB : ∀ w ∈ u_ws n_TB T_TB 8, tb_I1 w := tb_inOf (by decide +kernel)
theorem in_Mo : ∀ w ∈ u_ws n_Mo T_Mo 40, tb_I1 w := tb_inOf (by decide +kernel)
section Fields
variable {E : tb_E} {k : tb_MD} {d rc rs pc pc' : Nat} {L : List tb_L} {S : List tb_V} {M : tb_M} {Q : tb_O → tb_M → Prop}
theorem fl_De_9 : tb_I1 (Cond.fieldLink "TracedBuild$Deed" 9 (T_De 0).1 (T_De 0).2.1 (T_De 0).2.2.1) := tb_ix 189 (by decide +kernel) rfl
theorem g_De_9 {o : Nat} (hd : decode k.2.1 pc = .ok (.getfield 9, 3)) (hp : pc + 3 = pc') (hk : k.1.cls = "TracedBuild$Deed") (hKo : tb_K M o = 1) (kk : tb_Wp E k d rc rs pc' L (.inl (tb_I M o 0) :: S) M Q) : tb_Wp E k d rc rs pc L (.inr (.inl o) :: S) M Q := tb_getI (C0 := n_De) (T := T_De) (N := 7) (ci := 0) (j := 0) hd hp rfl (by decide) in_De (by decide) rfl (by rw [hk]; exact fl_De_9) hKo kk
theorem p_De_9 {o : Nat} {x : Int32} (hd : decode k.2.1 pc = .ok (.putfield 9, 3)) (hp : pc + 3 = pc') (hk : k.1.cls = "TracedBuild$Deed") (hKo : tb_K M o = 1) (kk : tb_Wp E k d rc rs pc' L S (tb_sI M o 0 x) Q) : tb_Wp E k d rc rs pc L (.inl x :: .inr (.inl o) :: S) M Q := tb_putI (C0 := n_De) (T := T_De) (N := 7) (ci := 0) (j := 0) hd hp rfl (by decide) in_De y_De ty_De nm_De (by decide) rfl (by rw [hk]; exact fl_De_9) rfl hKo rfl rfl kk
theorem fl_De_15 : tb_I1 (Cond.fieldLink "TracedBuild$Deed" 15 (T_De 1).1 (T_De 1).2.1 (T_De 1).2.2.1) := tb_ix 191 (by decide +kernel) rfl
theorem p_De_15 {o : Nat} {x : Int32} (hd : decode k.2.1 pc = .ok (.putfield 15, 3)) (hp : pc + 3 = pc') (hk : k.1.cls = "TracedBuild$Deed") (hKo : tb_K M o = 1) (kk : tb_Wp E k d rc rs pc' L S (tb_sI M o 1 x) Q) : tb_Wp E k d rc rs pc L (.inl x :: .inr (.inl o) :: S) M Q := tb_putI (C0 := n_De) (T := T_De) (N := 7) (ci := 0) (j := 1) hd hp rfl (by decide) in_De y_De ty_De nm_De (by decide) rfl (by rw [hk]; exact fl_De_15) rfl hKo rfl rfl kk
theorem fl_De_18 : tb_I1 (Cond.fieldLink "TracedBuild$Deed" 18 (T_De 2).1 (T_De 2).2.1 (T_De 2).2.2.1) := tb_ix 193 (by decide +kernel) rfl
theorem p_De_18 {o : Nat} {x : Int32} (hd : decode k.2.1 pc = .ok (.putfield 18, 3)) (hp : pc + 3 = pc') (hk : k.1.cls = "TracedBuild$Deed") (hKo : tb_K M o = 1) (hx : x = 0 ∨ x = 1) (kk : tb_Wp E k d rc rs pc' L S (tb_sI M o 2 x) Q) : tb_Wp E k d rc rs pc L (.inl x :: .inr (.inl o) :: S) M Q := tb_putI (C0 := n_De) (T := T_De) (N := 7) (ci := 0) (j := 2) hd hp rfl (by decide) in_De y_De ty_De nm_De (by decide) rfl (by rw [hk]; exact fl_De_18) rfl hKo (by rcases hx with rfl | rfl <;> rfl) (by rcases hx with rfl | rfl <;> rfl) kk
theorem fl_De_22 : Cond.fieldLinkNest "TracedBuild$Deed" 22 (T_Tr 2).1 (T_Tr 2).2.1 (T_Tr 2).2.2.1 "TracedBuild" ∈ tb_nest := by decide +kernel
theorem g_De_22 {o : Nat} (hd : decode k.2.1 pc = .ok (.getfield 22, 3)) (hp : pc + 3 = pc') (hk : k.1.cls = "TracedBuild$Deed") (hKo : tb_K M o = 7) (kk : tb_Wp E k d rc rs pc' L (.inl (tb_I M o 2) :: S) M Q) : tb_Wp E k d rc rs pc L (.inr (.inl o) :: S) M Q := tb_getIN (C0 := n_Tr) (T := T_Tr) (N := 5) (ci := 6) (j := 2) hd hp rfl (by decide) in_Tr (by decide) rfl (by rw [hk]; exact fl_De_22) hKo kk
theorem fl_De_27 : tb_I1 (Cond.fieldLink "TracedBuild$Deed" 27 (T_De 3).1 (T_De 3).2.1 (T_De 3).2.2.1) := tb_ix 195 (by decide +kernel) rfl
theorem p_De_27 {o : Nat} {x : Int32} (hd : decode k.2.1 pc = .ok (.putfield 27, 3)) (hp : pc + 3 = pc') (hk : k.1.cls = "TracedBuild$Deed") (hKo : tb_K M o = 1) (kk : tb_Wp E k d rc rs pc' L S (tb_sI M o 3 x) Q) : tb_Wp E k d rc rs pc L (.inl x :: .inr (.inl o) :: S) M Q := tb_putI (C0 := n_De) (T := T_De) (N := 7) (ci := 0) (j := 3) hd hp rfl (by decide) in_De y_De ty_De nm_De (by decide) rfl (by rw [hk]; exact fl_De_27) rfl hKo rfl rfl kk
theorem fl_De_28 : Cond.fieldLinkNest "TracedBuild$Deed" 28 (T_Tr 3).1 (T_Tr 3).2.1 (T_Tr 3).2.2.1 "TracedBuild" ∈ tb_nest := by decide +kernel
theorem g_De_28 {o : Nat} (hd : decode k.2.1 pc = .ok (.getfield 28, 3)) (hp : pc + 3 = pc') (hk : k.1.cls = "TracedBuild$Deed") (hKo : tb_K M o = 7) (kk : tb_Wp E k d rc rs pc' L (.inl (tb_I M o 3) :: S) M Q) : tb_Wp E k d rc rs pc L (.inr (.inl o) :: S) M Q := tb_getIN (C0 := n_Tr) (T := T_Tr) (N := 5) (ci := 6) (j := 3) hd hp rfl (by decide) in_Tr (by decide) rfl (by rw [hk]; exact fl_De_28) hKo kk
theorem fl_De_31 : tb_I1 (Cond.fieldLink "TracedBuild$Deed" 31 (T_De 4).1 (T_De 4).2.1 (T_De 4).2.2.1) := tb_ix 197 (by decide +kernel) rfl
theorem p_De_31 {o : Nat} {x : Int32} (hd : decode k.2.1 pc = .ok (.putfield 31, 3)) (hp : pc + 3 = pc') (hk : k.1.cls = "TracedBuild$Deed") (hKo : tb_K M o = 1) (kk : tb_Wp E k d rc rs pc' L S (tb_sI M o 4 x) Q) : tb_Wp E k d rc rs pc L (.inl x :: .inr (.inl o) :: S) M Q := tb_putI (C0 := n_De) (T := T_De) (N := 7) (ci := 0) (j := 4) hd hp rfl (by decide) in_De y_De ty_De nm_De (by decide) rfl (by rw [hk]; exact fl_De_31) rfl hKo rfl rfl kk
theorem fl_De_36 : tb_I1 (Cond.fieldLink "TracedBuild$Deed" 36 (T_De 5).1 (T_De 5).2.1 (T_De 5).2.2.1) := tb_ix 199 (by decide +kernel) rfl
theorem p_De_36 {o : Nat} {x : Int32} (hd : decode k.2.1 pc = .ok (.putfield 36, 3)) (hp : pc + 3 = pc') (hk : k.1.cls = "TracedBuild$Deed") (hKo : tb_K M o = 1) (kk : tb_Wp E k d rc rs pc' L S (tb_sI M o 5 x) Q) : tb_Wp E k d rc rs pc L (.inl x :: .inr (.inl o) :: S) M Q := tb_putI (C0 := n_De) (T := T_De) (N := 7) (ci := 0) (j := 5) hd hp rfl (by decide) in_De y_De ty_De nm_De (by decide) rfl (by rw [hk]; exact fl_De_36) rfl hKo rfl rfl kk
theorem fl_De_38 : tb_I1 (Cond.fieldLink "TracedBuild$Deed" 38 (T_De 6).1 (T_De 6).2.1 (T_De 6).2.2.1) := tb_ix 201 (by decide +kernel) rfl
theorem p_De_38 {o : Nat} {x : Int32} (hd : decode k.2.1 pc = .ok (.putfield 38, 3)) (hp : pc + 3 = pc') (hk : k.1.cls = "TracedBuild$Deed") (hKo : tb_K M o = 1) (kk : tb_Wp E k d rc rs pc' L S (tb_sI M o 6 x) Q) : tb_Wp E k d rc rs pc L (.inl x :: .inr (.inl o) :: S) M Q := tb_putI (C0 := n_De) (T := T_De) (N := 7) (ci := 0) (j := 6) hd hp rfl (by decide) in_De y_De ty_De nm_De (by decide) rfl (by rw [hk]; exact fl_De_38) rfl hKo rfl rfl kk
theorem fl_Lg_11 : tb_I1 (Cond.fieldLink "TracedBuild$Log" 11 (T_Lg 0).1 (T_Lg 0).2.1 (T_Lg 0).2.2.1) := tb_ix 218 (by decide +kernel) rfl
theorem g_Lg_11 {o : Nat} (hd : decode k.2.1 pc = .ok (.getfield 11, 3)) (hp : pc + 3 = pc') (hk : k.1.cls = "TracedBuild$Log") (hKo : tb_K M o = 2) (kk : tb_Wp E k d rc rs pc' L (.inr (.inl (tb_R M o 0)) :: S) M Q) : tb_Wp E k d rc rs pc L (.inr (.inl o) :: S) M Q := tb_getR (C0 := n_Lg) (T := T_Lg) (N := 7) (ci := 1) (j := 0) hd hp rfl (by decide) in_Lg (by decide) rfl (by rw [hk]; exact fl_Lg_11) hKo kk
theorem p_Lg_11 {o x : Nat} (hd : decode k.2.1 pc = .ok (.putfield 11, 3)) (hp : pc + 3 = pc') (hk : k.1.cls = "TracedBuild$Log") (hi : k.1.name = "<init>") (hKo : tb_K M o = 2) (kk : tb_Wp E k d rc rs pc' L S (tb_sR M o 0 x) Q) : tb_Wp E k d rc rs pc L (.inr (.inl x) :: .inr (.inl o) :: S) M Q := tb_putF (C0 := n_Lg) (T := T_Lg) (N := 7) (ci := 1) (j := 0) hd hp rfl (by decide) in_Lg y_Lg ty_Lg nm_Lg (by decide) rfl (by rw [hk]; exact fl_Lg_11) rfl hk.symm hi hKo (by cases x <;> rfl) (by cases x <;> rfl) kk
theorem fl_Lg_18 : tb_I1 (Cond.fieldLink "TracedBuild$Log" 18 (T_Lg 1).1 (T_Lg 1).2.1 (T_Lg 1).2.2.1) := tb_ix 219 (by decide +kernel) rfl
theorem g_Lg_18 {o : Nat} (hd : decode k.2.1 pc = .ok (.getfield 18, 3)) (hp : pc + 3 = pc') (hk : k.1.cls = "TracedBuild$Log") (hKo : tb_K M o = 2) (kk : tb_Wp E k d rc rs pc' L (.inl (tb_I M o 1) :: S) M Q) : tb_Wp E k d rc rs pc L (.inr (.inl o) :: S) M Q := tb_getI (C0 := n_Lg) (T := T_Lg) (N := 7) (ci := 1) (j := 1) hd hp rfl (by decide) in_Lg (by decide) rfl (by rw [hk]; exact fl_Lg_18) hKo kk
theorem p_Lg_18 {o : Nat} {x : Int32} (hd : decode k.2.1 pc = .ok (.putfield 18, 3)) (hp : pc + 3 = pc') (hk : k.1.cls = "TracedBuild$Log") (hKo : tb_K M o = 2) (kk : tb_Wp E k d rc rs pc' L S (tb_sI M o 1 x) Q) : tb_Wp E k d rc rs pc L (.inl x :: .inr (.inl o) :: S) M Q := tb_putI (C0 := n_Lg) (T := T_Lg) (N := 7) (ci := 1) (j := 1) hd hp rfl (by decide) in_Lg y_Lg ty_Lg nm_Lg (by decide) rfl (by rw [hk]; exact fl_Lg_18) rfl hKo rfl rfl kk
theorem fl_Lg_22 : tb_I1 (Cond.fieldLink "TracedBuild$Log" 22 (T_Lg 2).1 (T_Lg 2).2.1 (T_Lg 2).2.2.1) := tb_ix 220 (by decide +kernel) rfl
theorem g_Lg_22 {o : Nat} (hd : decode k.2.1 pc = .ok (.getfield 22, 3)) (hp : pc + 3 = pc') (hk : k.1.cls = "TracedBuild$Log") (hKo : tb_K M o = 2) (kk : tb_Wp E k d rc rs pc' L (.inl (tb_I M o 2) :: S) M Q) : tb_Wp E k d rc rs pc L (.inr (.inl o) :: S) M Q := tb_getI (C0 := n_Lg) (T := T_Lg) (N := 7) (ci := 1) (j := 2) hd hp rfl (by decide) in_Lg (by decide) rfl (by rw [hk]; exact fl_Lg_22) hKo kk
theorem p_Lg_22 {o : Nat} {x : Int32} (hd : decode k.2.1 pc = .ok (.putfield 22, 3)) (hp : pc + 3 = pc') (hk : k.1.cls = "TracedBuild$Log") (hKo : tb_K M o = 2) (kk : tb_Wp E k d rc rs pc' L S (tb_sI M o 2 x) Q) : tb_Wp E k d rc rs pc L (.inl x :: .inr (.inl o) :: S) M Q := tb_putI (C0 := n_Lg) (T := T_Lg) (N := 7) (ci := 1) (j := 2) hd hp rfl (by decide) in_Lg y_Lg ty_Lg nm_Lg (by decide) rfl (by rw [hk]; exact fl_Lg_22) rfl hKo rfl rfl kk
theorem fl_Lg_28 : tb_I1 (Cond.fieldLink "TracedBuild$Log" 28 (T_Lg 6).1 (T_Lg 6).2.1 (T_Lg 6).2.2.1) := tb_ix 224 (by decide +kernel) rfl
theorem g_Lg_28 {o : Nat} (hd : decode k.2.1 pc = .ok (.getfield 28, 3)) (hp : pc + 3 = pc') (hk : k.1.cls = "TracedBuild$Log") (hKo : tb_K M o = 2) (kk : tb_Wp E k d rc rs pc' L (.inl (tb_I M o 6) :: S) M Q) : tb_Wp E k d rc rs pc L (.inr (.inl o) :: S) M Q := tb_getI (C0 := n_Lg) (T := T_Lg) (N := 7) (ci := 1) (j := 6) hd hp rfl (by decide) in_Lg (by decide) rfl (by rw [hk]; exact fl_Lg_28) hKo kk
theorem p_Lg_28 {o : Nat} {x : Int32} (hd : decode k.2.1 pc = .ok (.putfield 28, 3)) (hp : pc + 3 = pc') (hk : k.1.cls = "TracedBuild$Log") (hKo : tb_K M o = 2) (hx : x = 0 ∨ x = 1) (kk : tb_Wp E k d rc rs pc' L S (tb_sI M o 6 x) Q) : tb_Wp E k d rc rs pc L (.inl x :: .inr (.inl o) :: S) M Q := tb_putI (C0 := n_Lg) (T := T_Lg) (N := 7) (ci := 1) (j := 6) hd hp rfl (by decide) in_Lg y_Lg ty_Lg nm_Lg (by decide) rfl (by rw [hk]; exact fl_Lg_28) rfl hKo (by rcases hx with rfl | rfl <;> rfl) (by rcases hx with rfl | rfl <;> rfl) kk
theorem fl_Lg_36 : tb_I1 (Cond.fieldLink "TracedBuild$Log" 36 (T_Lg 3).1 (T_Lg 3).2.1 (T_Lg 3).2.2.1) := tb_ix 221 (by decide +kernel) rfl
theorem g_Lg_36 {o : Nat} (hd : decode k.2.1 pc = .ok (.getfield 36, 3)) (hp : pc + 3 = pc') (hk : k.1.cls = "TracedBuild$Log") (hKo : tb_K M o = 2) (kk : tb_Wp E k d rc rs pc' L (.inl (tb_I M o 3) :: S) M Q) : tb_Wp E k d rc rs pc L (.inr (.inl o) :: S) M Q := tb_getI (C0 := n_Lg) (T := T_Lg) (N := 7) (ci := 1) (j := 3) hd hp rfl (by decide) in_Lg (by decide) rfl (by rw [hk]; exact fl_Lg_36) hKo kk
theorem p_Lg_36 {o : Nat} {x : Int32} (hd : decode k.2.1 pc = .ok (.putfield 36, 3)) (hp : pc + 3 = pc') (hk : k.1.cls = "TracedBuild$Log") (hKo : tb_K M o = 2) (kk : tb_Wp E k d rc rs pc' L S (tb_sI M o 3 x) Q) : tb_Wp E k d rc rs pc L (.inl x :: .inr (.inl o) :: S) M Q := tb_putI (C0 := n_Lg) (T := T_Lg) (N := 7) (ci := 1) (j := 3) hd hp rfl (by decide) in_Lg y_Lg ty_Lg nm_Lg (by decide) rfl (by rw [hk]; exact fl_Lg_36) rfl hKo rfl rfl kk
theorem fl_Lg_39 : tb_I1 (Cond.fieldLink "TracedBuild$Log" 39 (T_Lg 4).1 (T_Lg 4).2.1 (T_Lg 4).2.2.1) := tb_ix 222 (by decide +kernel) rfl
theorem g_Lg_39 {o : Nat} (hd : decode k.2.1 pc = .ok (.getfield 39, 3)) (hp : pc + 3 = pc') (hk : k.1.cls = "TracedBuild$Log") (hKo : tb_K M o = 2) (kk : tb_Wp E k d rc rs pc' L (.inl (tb_I M o 4) :: S) M Q) : tb_Wp E k d rc rs pc L (.inr (.inl o) :: S) M Q := tb_getI (C0 := n_Lg) (T := T_Lg) (N := 7) (ci := 1) (j := 4) hd hp rfl (by decide) in_Lg (by decide) rfl (by rw [hk]; exact fl_Lg_39) hKo kk
theorem p_Lg_39 {o : Nat} {x : Int32} (hd : decode k.2.1 pc = .ok (.putfield 39, 3)) (hp : pc + 3 = pc') (hk : k.1.cls = "TracedBuild$Log") (hKo : tb_K M o = 2) (kk : tb_Wp E k d rc rs pc' L S (tb_sI M o 4 x) Q) : tb_Wp E k d rc rs pc L (.inl x :: .inr (.inl o) :: S) M Q := tb_putI (C0 := n_Lg) (T := T_Lg) (N := 7) (ci := 1) (j := 4) hd hp rfl (by decide) in_Lg y_Lg ty_Lg nm_Lg (by decide) rfl (by rw [hk]; exact fl_Lg_39) rfl hKo rfl rfl kk
theorem fl_Lg_42 : tb_I1 (Cond.fieldLink "TracedBuild$Log" 42 (T_Lg 5).1 (T_Lg 5).2.1 (T_Lg 5).2.2.1) := tb_ix 223 (by decide +kernel) rfl
theorem g_Lg_42 {o : Nat} (hd : decode k.2.1 pc = .ok (.getfield 42, 3)) (hp : pc + 3 = pc') (hk : k.1.cls = "TracedBuild$Log") (hKo : tb_K M o = 2) (kk : tb_Wp E k d rc rs pc' L (.inl (tb_I M o 5) :: S) M Q) : tb_Wp E k d rc rs pc L (.inr (.inl o) :: S) M Q := tb_getI (C0 := n_Lg) (T := T_Lg) (N := 7) (ci := 1) (j := 5) hd hp rfl (by decide) in_Lg (by decide) rfl (by rw [hk]; exact fl_Lg_42) hKo kk
theorem p_Lg_42 {o : Nat} {x : Int32} (hd : decode k.2.1 pc = .ok (.putfield 42, 3)) (hp : pc + 3 = pc') (hk : k.1.cls = "TracedBuild$Log") (hKo : tb_K M o = 2) (kk : tb_Wp E k d rc rs pc' L S (tb_sI M o 5 x) Q) : tb_Wp E k d rc rs pc L (.inl x :: .inr (.inl o) :: S) M Q := tb_putI (C0 := n_Lg) (T := T_Lg) (N := 7) (ci := 1) (j := 5) hd hp rfl (by decide) in_Lg y_Lg ty_Lg nm_Lg (by decide) rfl (by rw [hk]; exact fl_Lg_42) rfl hKo rfl rfl kk
theorem fl_Lg_49 : Cond.fieldLinkNest "TracedBuild$Log" 49 (T_De 2).1 (T_De 2).2.1 (T_De 2).2.2.1 "TracedBuild" ∈ tb_nest := by decide +kernel
theorem g_Lg_49 {o : Nat} (hd : decode k.2.1 pc = .ok (.getfield 49, 3)) (hp : pc + 3 = pc') (hk : k.1.cls = "TracedBuild$Log") (hKo : tb_K M o = 1) (kk : tb_Wp E k d rc rs pc' L (.inl (tb_I M o 2) :: S) M Q) : tb_Wp E k d rc rs pc L (.inr (.inl o) :: S) M Q := tb_getIN (C0 := n_De) (T := T_De) (N := 7) (ci := 0) (j := 2) hd hp rfl (by decide) in_De (by decide) rfl (by rw [hk]; exact fl_Lg_49) hKo kk
theorem fl_Lg_67 : Cond.fieldLinkNest "TracedBuild$Log" 67 (T_De 5).1 (T_De 5).2.1 (T_De 5).2.2.1 "TracedBuild" ∈ tb_nest := by decide +kernel
theorem g_Lg_67 {o : Nat} (hd : decode k.2.1 pc = .ok (.getfield 67, 3)) (hp : pc + 3 = pc') (hk : k.1.cls = "TracedBuild$Log") (hKo : tb_K M o = 1) (kk : tb_Wp E k d rc rs pc' L (.inl (tb_I M o 5) :: S) M Q) : tb_Wp E k d rc rs pc L (.inr (.inl o) :: S) M Q := tb_getIN (C0 := n_De) (T := T_De) (N := 7) (ci := 0) (j := 5) hd hp rfl (by decide) in_De (by decide) rfl (by rw [hk]; exact fl_Lg_67) hKo kk
theorem fl_Lg_70 : Cond.fieldLinkNest "TracedBuild$Log" 70 (T_De 3).1 (T_De 3).2.1 (T_De 3).2.2.1 "TracedBuild" ∈ tb_nest := by decide +kernel
theorem g_Lg_70 {o : Nat} (hd : decode k.2.1 pc = .ok (.getfield 70, 3)) (hp : pc + 3 = pc') (hk : k.1.cls = "TracedBuild$Log") (hKo : tb_K M o = 1) (kk : tb_Wp E k d rc rs pc' L (.inl (tb_I M o 3) :: S) M Q) : tb_Wp E k d rc rs pc L (.inr (.inl o) :: S) M Q := tb_getIN (C0 := n_De) (T := T_De) (N := 7) (ci := 0) (j := 3) hd hp rfl (by decide) in_De (by decide) rfl (by rw [hk]; exact fl_Lg_70) hKo kk
theorem fl_Lg_73 : Cond.fieldLinkNest "TracedBuild$Log" 73 (T_De 4).1 (T_De 4).2.1 (T_De 4).2.2.1 "TracedBuild" ∈ tb_nest := by decide +kernel
theorem g_Lg_73 {o : Nat} (hd : decode k.2.1 pc = .ok (.getfield 73, 3)) (hp : pc + 3 = pc') (hk : k.1.cls = "TracedBuild$Log") (hKo : tb_K M o = 1) (kk : tb_Wp E k d rc rs pc' L (.inl (tb_I M o 4) :: S) M Q) : tb_Wp E k d rc rs pc L (.inr (.inl o) :: S) M Q := tb_getIN (C0 := n_De) (T := T_De) (N := 7) (ci := 0) (j := 4) hd hp rfl (by decide) in_De (by decide) rfl (by rw [hk]; exact fl_Lg_73) hKo kk
theorem fl_Lg_76 : Cond.fieldLinkNest "TracedBuild$Log" 76 (T_De 6).1 (T_De 6).2.1 (T_De 6).2.2.1 "TracedBuild" ∈ tb_nest := by decide +kernel
theorem g_Lg_76 {o : Nat} (hd : decode k.2.1 pc = .ok (.getfield 76, 3)) (hp : pc + 3 = pc') (hk : k.1.cls = "TracedBuild$Log") (hKo : tb_K M o = 1) (kk : tb_Wp E k d rc rs pc' L (.inl (tb_I M o 6) :: S) M Q) : tb_Wp E k d rc rs pc L (.inr (.inl o) :: S) M Q := tb_getIN (C0 := n_De) (T := T_De) (N := 7) (ci := 0) (j := 6) hd hp rfl (by decide) in_De (by decide) rfl (by rw [hk]; exact fl_Lg_76) hKo kk
theorem fl_Sc_11 : tb_I1 (Cond.fieldLink "TracedBuild$Script" 11 (T_Sc 0).1 (T_Sc 0).2.1 (T_Sc 0).2.2.1) := tb_ix 106 (by decide +kernel) rfl
theorem g_Sc_11 {o : Nat} (hd : decode k.2.1 pc = .ok (.getfield 11, 3)) (hp : pc + 3 = pc') (hk : k.1.cls = "TracedBuild$Script") (hKo : tb_K M o = 3) (kk : tb_Wp E k d rc rs pc' L (.inr (.inl (tb_R M o 0)) :: S) M Q) : tb_Wp E k d rc rs pc L (.inr (.inl o) :: S) M Q := tb_getR (C0 := n_Sc) (T := T_Sc) (N := 2) (ci := 2) (j := 0) hd hp rfl (by decide) in_Sc (by decide) rfl (by rw [hk]; exact fl_Sc_11) hKo kk
theorem p_Sc_11 {o x : Nat} (hd : decode k.2.1 pc = .ok (.putfield 11, 3)) (hp : pc + 3 = pc') (hk : k.1.cls = "TracedBuild$Script") (hi : k.1.name = "<init>") (hKo : tb_K M o = 3) (kk : tb_Wp E k d rc rs pc' L S (tb_sR M o 0 x) Q) : tb_Wp E k d rc rs pc L (.inr (.inl x) :: .inr (.inl o) :: S) M Q := tb_putF (C0 := n_Sc) (T := T_Sc) (N := 2) (ci := 2) (j := 0) hd hp rfl (by decide) in_Sc y_Sc ty_Sc nm_Sc (by decide) rfl (by rw [hk]; exact fl_Sc_11) rfl hk.symm hi hKo (by cases x <;> rfl) (by cases x <;> rfl) kk
theorem fl_Sc_18 : tb_I1 (Cond.fieldLink "TracedBuild$Script" 18 (T_Sc 1).1 (T_Sc 1).2.1 (T_Sc 1).2.2.1) := tb_ix 107 (by decide +kernel) rfl
theorem g_Sc_18 {o : Nat} (hd : decode k.2.1 pc = .ok (.getfield 18, 3)) (hp : pc + 3 = pc') (hk : k.1.cls = "TracedBuild$Script") (hKo : tb_K M o = 3) (kk : tb_Wp E k d rc rs pc' L (.inl (tb_I M o 1) :: S) M Q) : tb_Wp E k d rc rs pc L (.inr (.inl o) :: S) M Q := tb_getI (C0 := n_Sc) (T := T_Sc) (N := 2) (ci := 2) (j := 1) hd hp rfl (by decide) in_Sc (by decide) rfl (by rw [hk]; exact fl_Sc_18) hKo kk
theorem p_Sc_18 {o : Nat} {x : Int32} (hd : decode k.2.1 pc = .ok (.putfield 18, 3)) (hp : pc + 3 = pc') (hk : k.1.cls = "TracedBuild$Script") (hKo : tb_K M o = 3) (kk : tb_Wp E k d rc rs pc' L S (tb_sI M o 1 x) Q) : tb_Wp E k d rc rs pc L (.inl x :: .inr (.inl o) :: S) M Q := tb_putI (C0 := n_Sc) (T := T_Sc) (N := 2) (ci := 2) (j := 1) hd hp rfl (by decide) in_Sc y_Sc ty_Sc nm_Sc (by decide) rfl (by rw [hk]; exact fl_Sc_18) rfl hKo rfl rfl kk
theorem fl_Sh_9 : tb_I1 (Cond.fieldLink "TracedBuild$Shelf" 9 (T_Sh 0).1 (T_Sh 0).2.1 (T_Sh 0).2.2.1) := tb_ix 119 (by decide +kernel) rfl
theorem g_Sh_9 {o : Nat} (hd : decode k.2.1 pc = .ok (.getfield 9, 3)) (hp : pc + 3 = pc') (hk : k.1.cls = "TracedBuild$Shelf") (hKo : tb_K M o = 4) (kk : tb_Wp E k d rc rs pc' L (.inr (.inl (tb_R M o 0)) :: S) M Q) : tb_Wp E k d rc rs pc L (.inr (.inl o) :: S) M Q := tb_getR (C0 := n_Sh) (T := T_Sh) (N := 2) (ci := 3) (j := 0) hd hp rfl (by decide) in_Sh (by decide) rfl (by rw [hk]; exact fl_Sh_9) hKo kk
theorem p_Sh_9 {o x : Nat} (hd : decode k.2.1 pc = .ok (.putfield 9, 3)) (hp : pc + 3 = pc') (hk : k.1.cls = "TracedBuild$Shelf") (hi : k.1.name = "<init>") (hKo : tb_K M o = 4) (kk : tb_Wp E k d rc rs pc' L S (tb_sR M o 0 x) Q) : tb_Wp E k d rc rs pc L (.inr (.inl x) :: .inr (.inl o) :: S) M Q := tb_putF (C0 := n_Sh) (T := T_Sh) (N := 2) (ci := 3) (j := 0) hd hp rfl (by decide) in_Sh y_Sh ty_Sh nm_Sh (by decide) rfl (by rw [hk]; exact fl_Sh_9) rfl hk.symm hi hKo (by cases x <;> rfl) (by cases x <;> rfl) kk
theorem fl_Sh_15 : tb_I1 (Cond.fieldLink "TracedBuild$Shelf" 15 (T_Sh 1).1 (T_Sh 1).2.1 (T_Sh 1).2.2.1) := tb_ix 120 (by decide +kernel) rfl
theorem g_Sh_15 {o : Nat} (hd : decode k.2.1 pc = .ok (.getfield 15, 3)) (hp : pc + 3 = pc') (hk : k.1.cls = "TracedBuild$Shelf") (hKo : tb_K M o = 4) (kk : tb_Wp E k d rc rs pc' L (.inr (.inl (tb_R M o 1)) :: S) M Q) : tb_Wp E k d rc rs pc L (.inr (.inl o) :: S) M Q := tb_getR (C0 := n_Sh) (T := T_Sh) (N := 2) (ci := 3) (j := 1) hd hp rfl (by decide) in_Sh (by decide) rfl (by rw [hk]; exact fl_Sh_15) hKo kk
theorem p_Sh_15 {o x : Nat} (hd : decode k.2.1 pc = .ok (.putfield 15, 3)) (hp : pc + 3 = pc') (hk : k.1.cls = "TracedBuild$Shelf") (hi : k.1.name = "<init>") (hKo : tb_K M o = 4) (kk : tb_Wp E k d rc rs pc' L S (tb_sR M o 1 x) Q) : tb_Wp E k d rc rs pc L (.inr (.inl x) :: .inr (.inl o) :: S) M Q := tb_putF (C0 := n_Sh) (T := T_Sh) (N := 2) (ci := 3) (j := 1) hd hp rfl (by decide) in_Sh y_Sh ty_Sh nm_Sh (by decide) rfl (by rw [hk]; exact fl_Sh_15) rfl hk.symm hi hKo (by cases x <;> rfl) (by cases x <;> rfl) kk
theorem fl_St_11 : tb_I1 (Cond.fieldLink "TracedBuild$Store" 11 (T_St 0).1 (T_St 0).2.1 (T_St 0).2.2.1) := tb_ix 169 (by decide +kernel) rfl
theorem g_St_11 {o : Nat} (hd : decode k.2.1 pc = .ok (.getfield 11, 3)) (hp : pc + 3 = pc') (hk : k.1.cls = "TracedBuild$Store") (hKo : tb_K M o = 5) (kk : tb_Wp E k d rc rs pc' L (.inr (.inl (tb_R M o 0)) :: S) M Q) : tb_Wp E k d rc rs pc L (.inr (.inl o) :: S) M Q := tb_getR (C0 := n_St) (T := T_St) (N := 2) (ci := 4) (j := 0) hd hp rfl (by decide) in_St (by decide) rfl (by rw [hk]; exact fl_St_11) hKo kk
theorem p_St_11 {o x : Nat} (hd : decode k.2.1 pc = .ok (.putfield 11, 3)) (hp : pc + 3 = pc') (hk : k.1.cls = "TracedBuild$Store") (hi : k.1.name = "<init>") (hKo : tb_K M o = 5) (kk : tb_Wp E k d rc rs pc' L S (tb_sR M o 0 x) Q) : tb_Wp E k d rc rs pc L (.inr (.inl x) :: .inr (.inl o) :: S) M Q := tb_putF (C0 := n_St) (T := T_St) (N := 2) (ci := 4) (j := 0) hd hp rfl (by decide) in_St y_St ty_St nm_St (by decide) rfl (by rw [hk]; exact fl_St_11) rfl hk.symm hi hKo (by cases x <;> rfl) (by cases x <;> rfl) kk
theorem fl_St_18 : tb_I1 (Cond.fieldLink "TracedBuild$Store" 18 (T_St 1).1 (T_St 1).2.1 (T_St 1).2.2.1) := tb_ix 170 (by decide +kernel) rfl
theorem g_St_18 {o : Nat} (hd : decode k.2.1 pc = .ok (.getfield 18, 3)) (hp : pc + 3 = pc') (hk : k.1.cls = "TracedBuild$Store") (hKo : tb_K M o = 5) (kk : tb_Wp E k d rc rs pc' L (.inl (tb_I M o 1) :: S) M Q) : tb_Wp E k d rc rs pc L (.inr (.inl o) :: S) M Q := tb_getI (C0 := n_St) (T := T_St) (N := 2) (ci := 4) (j := 1) hd hp rfl (by decide) in_St (by decide) rfl (by rw [hk]; exact fl_St_18) hKo kk
theorem p_St_18 {o : Nat} {x : Int32} (hd : decode k.2.1 pc = .ok (.putfield 18, 3)) (hp : pc + 3 = pc') (hk : k.1.cls = "TracedBuild$Store") (hKo : tb_K M o = 5) (kk : tb_Wp E k d rc rs pc' L S (tb_sI M o 1 x) Q) : tb_Wp E k d rc rs pc L (.inl x :: .inr (.inl o) :: S) M Q := tb_putI (C0 := n_St) (T := T_St) (N := 2) (ci := 4) (j := 1) hd hp rfl (by decide) in_St y_St ty_St nm_St (by decide) rfl (by rw [hk]; exact fl_St_18) rfl hKo rfl rfl kk
theorem fl_St_53 : Cond.fieldLinkNest "TracedBuild$Store" 53 (T_Tr 0).1 (T_Tr 0).2.1 (T_Tr 0).2.2.1 "TracedBuild" ∈ tb_nest := by decide +kernel
theorem g_St_53 {o : Nat} (hd : decode k.2.1 pc = .ok (.getfield 53, 3)) (hp : pc + 3 = pc') (hk : k.1.cls = "TracedBuild$Store") (hKo : tb_K M o = 7) (kk : tb_Wp E k d rc rs pc' L (.inr (.inl (tb_R M o 0)) :: S) M Q) : tb_Wp E k d rc rs pc L (.inr (.inl o) :: S) M Q := tb_getRN (C0 := n_Tr) (T := T_Tr) (N := 5) (ci := 6) (j := 0) hd hp rfl (by decide) in_Tr (by decide) rfl (by rw [hk]; exact fl_St_53) hKo kk
theorem fl_Tx_9 : tb_I1 (Cond.fieldLink "TracedBuild$Text" 9 (T_Tx 0).1 (T_Tx 0).2.1 (T_Tx 0).2.2.1) := tb_ix 89 (by decide +kernel) rfl
theorem g_Tx_9 {o : Nat} (hd : decode k.2.1 pc = .ok (.getfield 9, 3)) (hp : pc + 3 = pc') (hk : k.1.cls = "TracedBuild$Text") (hKo : tb_K M o = 6) (kk : tb_Wp E k d rc rs pc' L (.inr (.inl (tb_R M o 0)) :: S) M Q) : tb_Wp E k d rc rs pc L (.inr (.inl o) :: S) M Q := tb_getR (C0 := n_Tx) (T := T_Tx) (N := 2) (ci := 5) (j := 0) hd hp rfl (by decide) in_Tx (by decide) rfl (by rw [hk]; exact fl_Tx_9) hKo kk
theorem p_Tx_9 {o x : Nat} (hd : decode k.2.1 pc = .ok (.putfield 9, 3)) (hp : pc + 3 = pc') (hk : k.1.cls = "TracedBuild$Text") (hi : k.1.name = "<init>") (hKo : tb_K M o = 6) (kk : tb_Wp E k d rc rs pc' L S (tb_sR M o 0 x) Q) : tb_Wp E k d rc rs pc L (.inr (.inl x) :: .inr (.inl o) :: S) M Q := tb_putF (C0 := n_Tx) (T := T_Tx) (N := 2) (ci := 5) (j := 0) hd hp rfl (by decide) in_Tx y_Tx ty_Tx nm_Tx (by decide) rfl (by rw [hk]; exact fl_Tx_9) rfl hk.symm hi hKo (by cases x <;> rfl) (by cases x <;> rfl) kk
theorem fl_Tx_15 : tb_I1 (Cond.fieldLink "TracedBuild$Text" 15 (T_Tx 1).1 (T_Tx 1).2.1 (T_Tx 1).2.2.1) := tb_ix 90 (by decide +kernel) rfl
theorem g_Tx_15 {o : Nat} (hd : decode k.2.1 pc = .ok (.getfield 15, 3)) (hp : pc + 3 = pc') (hk : k.1.cls = "TracedBuild$Text") (hKo : tb_K M o = 6) (kk : tb_Wp E k d rc rs pc' L (.inl (tb_I M o 1) :: S) M Q) : tb_Wp E k d rc rs pc L (.inr (.inl o) :: S) M Q := tb_getI (C0 := n_Tx) (T := T_Tx) (N := 2) (ci := 5) (j := 1) hd hp rfl (by decide) in_Tx (by decide) rfl (by rw [hk]; exact fl_Tx_15) hKo kk
theorem p_Tx_15 {o : Nat} {x : Int32} (hd : decode k.2.1 pc = .ok (.putfield 15, 3)) (hp : pc + 3 = pc') (hk : k.1.cls = "TracedBuild$Text") (hKo : tb_K M o = 6) (kk : tb_Wp E k d rc rs pc' L S (tb_sI M o 1 x) Q) : tb_Wp E k d rc rs pc L (.inl x :: .inr (.inl o) :: S) M Q := tb_putI (C0 := n_Tx) (T := T_Tx) (N := 2) (ci := 5) (j := 1) hd hp rfl (by decide) in_Tx y_Tx ty_Tx nm_Tx (by decide) rfl (by rw [hk]; exact fl_Tx_15) rfl hKo rfl rfl kk
theorem fl_Tr_12 : tb_I1 (Cond.fieldLink "TracedBuild$Trace" 12 (T_Tr 0).1 (T_Tr 0).2.1 (T_Tr 0).2.2.1) := tb_ix 145 (by decide +kernel) rfl
theorem g_Tr_12 {o : Nat} (hd : decode k.2.1 pc = .ok (.getfield 12, 3)) (hp : pc + 3 = pc') (hk : k.1.cls = "TracedBuild$Trace") (hKo : tb_K M o = 7) (kk : tb_Wp E k d rc rs pc' L (.inr (.inl (tb_R M o 0)) :: S) M Q) : tb_Wp E k d rc rs pc L (.inr (.inl o) :: S) M Q := tb_getR (C0 := n_Tr) (T := T_Tr) (N := 5) (ci := 6) (j := 0) hd hp rfl (by decide) in_Tr (by decide) rfl (by rw [hk]; exact fl_Tr_12) hKo kk
theorem p_Tr_12 {o x : Nat} (hd : decode k.2.1 pc = .ok (.putfield 12, 3)) (hp : pc + 3 = pc') (hk : k.1.cls = "TracedBuild$Trace") (hi : k.1.name = "<init>") (hKo : tb_K M o = 7) (kk : tb_Wp E k d rc rs pc' L S (tb_sR M o 0 x) Q) : tb_Wp E k d rc rs pc L (.inr (.inl x) :: .inr (.inl o) :: S) M Q := tb_putF (C0 := n_Tr) (T := T_Tr) (N := 5) (ci := 6) (j := 0) hd hp rfl (by decide) in_Tr y_Tr ty_Tr nm_Tr (by decide) rfl (by rw [hk]; exact fl_Tr_12) rfl hk.symm hi hKo (by cases x <;> rfl) (by cases x <;> rfl) kk
theorem fl_Tr_23 : tb_I1 (Cond.fieldLink "TracedBuild$Trace" 23 (T_Tr 1).1 (T_Tr 1).2.1 (T_Tr 1).2.2.1) := tb_ix 148 (by decide +kernel) rfl
theorem g_Tr_23 {o : Nat} (hd : decode k.2.1 pc = .ok (.getfield 23, 3)) (hp : pc + 3 = pc') (hk : k.1.cls = "TracedBuild$Trace") (hKo : tb_K M o = 7) (kk : tb_Wp E k d rc rs pc' L (.inr (.inl (tb_R M o 1)) :: S) M Q) : tb_Wp E k d rc rs pc L (.inr (.inl o) :: S) M Q := tb_getR (C0 := n_Tr) (T := T_Tr) (N := 5) (ci := 6) (j := 1) hd hp rfl (by decide) in_Tr (by decide) rfl (by rw [hk]; exact fl_Tr_23) hKo kk
theorem p_Tr_23 {o x : Nat} (hd : decode k.2.1 pc = .ok (.putfield 23, 3)) (hp : pc + 3 = pc') (hk : k.1.cls = "TracedBuild$Trace") (hi : k.1.name = "<init>") (hKo : tb_K M o = 7) (kk : tb_Wp E k d rc rs pc' L S (tb_sR M o 1 x) Q) : tb_Wp E k d rc rs pc L (.inr (.inl x) :: .inr (.inl o) :: S) M Q := tb_putF (C0 := n_Tr) (T := T_Tr) (N := 5) (ci := 6) (j := 1) hd hp rfl (by decide) in_Tr y_Tr ty_Tr nm_Tr (by decide) rfl (by rw [hk]; exact fl_Tr_23) rfl hk.symm hi hKo (by cases x <;> rfl) (by cases x <;> rfl) kk
theorem fl_Tr_27 : tb_I1 (Cond.fieldLink "TracedBuild$Trace" 27 (T_Tr 2).1 (T_Tr 2).2.1 (T_Tr 2).2.2.1) := tb_ix 150 (by decide +kernel) rfl
theorem g_Tr_27 {o : Nat} (hd : decode k.2.1 pc = .ok (.getfield 27, 3)) (hp : pc + 3 = pc') (hk : k.1.cls = "TracedBuild$Trace") (hKo : tb_K M o = 7) (kk : tb_Wp E k d rc rs pc' L (.inl (tb_I M o 2) :: S) M Q) : tb_Wp E k d rc rs pc L (.inr (.inl o) :: S) M Q := tb_getI (C0 := n_Tr) (T := T_Tr) (N := 5) (ci := 6) (j := 2) hd hp rfl (by decide) in_Tr (by decide) rfl (by rw [hk]; exact fl_Tr_27) hKo kk
theorem p_Tr_27 {o : Nat} {x : Int32} (hd : decode k.2.1 pc = .ok (.putfield 27, 3)) (hp : pc + 3 = pc') (hk : k.1.cls = "TracedBuild$Trace") (hKo : tb_K M o = 7) (kk : tb_Wp E k d rc rs pc' L S (tb_sI M o 2 x) Q) : tb_Wp E k d rc rs pc L (.inl x :: .inr (.inl o) :: S) M Q := tb_putI (C0 := n_Tr) (T := T_Tr) (N := 5) (ci := 6) (j := 2) hd hp rfl (by decide) in_Tr y_Tr ty_Tr nm_Tr (by decide) rfl (by rw [hk]; exact fl_Tr_27) rfl hKo rfl rfl kk
theorem fl_Tr_31 : tb_I1 (Cond.fieldLink "TracedBuild$Trace" 31 (T_Tr 3).1 (T_Tr 3).2.1 (T_Tr 3).2.2.1) := tb_ix 153 (by decide +kernel) rfl
theorem g_Tr_31 {o : Nat} (hd : decode k.2.1 pc = .ok (.getfield 31, 3)) (hp : pc + 3 = pc') (hk : k.1.cls = "TracedBuild$Trace") (hKo : tb_K M o = 7) (kk : tb_Wp E k d rc rs pc' L (.inl (tb_I M o 3) :: S) M Q) : tb_Wp E k d rc rs pc L (.inr (.inl o) :: S) M Q := tb_getI (C0 := n_Tr) (T := T_Tr) (N := 5) (ci := 6) (j := 3) hd hp rfl (by decide) in_Tr (by decide) rfl (by rw [hk]; exact fl_Tr_31) hKo kk
theorem p_Tr_31 {o : Nat} {x : Int32} (hd : decode k.2.1 pc = .ok (.putfield 31, 3)) (hp : pc + 3 = pc') (hk : k.1.cls = "TracedBuild$Trace") (hKo : tb_K M o = 7) (kk : tb_Wp E k d rc rs pc' L S (tb_sI M o 3 x) Q) : tb_Wp E k d rc rs pc L (.inl x :: .inr (.inl o) :: S) M Q := tb_putI (C0 := n_Tr) (T := T_Tr) (N := 5) (ci := 6) (j := 3) hd hp rfl (by decide) in_Tr y_Tr ty_Tr nm_Tr (by decide) rfl (by rw [hk]; exact fl_Tr_31) rfl hKo rfl rfl kk
theorem fl_Tr_34 : tb_I1 (Cond.fieldLink "TracedBuild$Trace" 34 (T_Tr 4).1 (T_Tr 4).2.1 (T_Tr 4).2.2.1) := tb_ix 156 (by decide +kernel) rfl
theorem g_Tr_34 {o : Nat} (hd : decode k.2.1 pc = .ok (.getfield 34, 3)) (hp : pc + 3 = pc') (hk : k.1.cls = "TracedBuild$Trace") (hKo : tb_K M o = 7) (kk : tb_Wp E k d rc rs pc' L (.inl (tb_I M o 4) :: S) M Q) : tb_Wp E k d rc rs pc L (.inr (.inl o) :: S) M Q := tb_getI (C0 := n_Tr) (T := T_Tr) (N := 5) (ci := 6) (j := 4) hd hp rfl (by decide) in_Tr (by decide) rfl (by rw [hk]; exact fl_Tr_34) hKo kk
theorem p_Tr_34 {o : Nat} {x : Int32} (hd : decode k.2.1 pc = .ok (.putfield 34, 3)) (hp : pc + 3 = pc') (hk : k.1.cls = "TracedBuild$Trace") (hKo : tb_K M o = 7) (kk : tb_Wp E k d rc rs pc' L S (tb_sI M o 4 x) Q) : tb_Wp E k d rc rs pc L (.inl x :: .inr (.inl o) :: S) M Q := tb_putI (C0 := n_Tr) (T := T_Tr) (N := 5) (ci := 6) (j := 4) hd hp rfl (by decide) in_Tr y_Tr ty_Tr nm_Tr (by decide) rfl (by rw [hk]; exact fl_Tr_34) rfl hKo rfl rfl kk
theorem fl_TB_10 : tb_I1 (Cond.fieldLink "TracedBuild" 10 (T_TB 0).1 (T_TB 0).2.1 (T_TB 0).2.2.1) := tb_ix 240 (by decide +kernel) rfl
theorem g_TB_10 {o : Nat} (hd : decode k.2.1 pc = .ok (.getfield 10, 3)) (hp : pc + 3 = pc') (hk : k.1.cls = "TracedBuild") (hKo : tb_K M o = 8) (kk : tb_Wp E k d rc rs pc' L (.inr (.inl (tb_R M o 0)) :: S) M Q) : tb_Wp E k d rc rs pc L (.inr (.inl o) :: S) M Q := tb_getR (C0 := n_TB) (T := T_TB) (N := 8) (ci := 7) (j := 0) hd hp rfl (by decide) in_TB (by decide) rfl (by rw [hk]; exact fl_TB_10) hKo kk
theorem p_TB_10 {o x : Nat} (hd : decode k.2.1 pc = .ok (.putfield 10, 3)) (hp : pc + 3 = pc') (hk : k.1.cls = "TracedBuild") (hi : k.1.name = "<init>") (hKo : tb_K M o = 8) (kk : tb_Wp E k d rc rs pc' L S (tb_sR M o 0 x) Q) : tb_Wp E k d rc rs pc L (.inr (.inl x) :: .inr (.inl o) :: S) M Q := tb_putF (C0 := n_TB) (T := T_TB) (N := 8) (ci := 7) (j := 0) hd hp rfl (by decide) in_TB y_TB ty_TB nm_TB (by decide) rfl (by rw [hk]; exact fl_TB_10) rfl hk.symm hi hKo (by cases x <;> rfl) (by cases x <;> rfl) kk
theorem fl_TB_19 : tb_I1 (Cond.fieldLink "TracedBuild" 19 (T_TB 1).1 (T_TB 1).2.1 (T_TB 1).2.2.1) := tb_ix 241 (by decide +kernel) rfl
theorem g_TB_19 {o : Nat} (hd : decode k.2.1 pc = .ok (.getfield 19, 3)) (hp : pc + 3 = pc') (hk : k.1.cls = "TracedBuild") (hKo : tb_K M o = 8) (kk : tb_Wp E k d rc rs pc' L (.inr (.inl (tb_R M o 1)) :: S) M Q) : tb_Wp E k d rc rs pc L (.inr (.inl o) :: S) M Q := tb_getR (C0 := n_TB) (T := T_TB) (N := 8) (ci := 7) (j := 1) hd hp rfl (by decide) in_TB (by decide) rfl (by rw [hk]; exact fl_TB_19) hKo kk
theorem p_TB_19 {o x : Nat} (hd : decode k.2.1 pc = .ok (.putfield 19, 3)) (hp : pc + 3 = pc') (hk : k.1.cls = "TracedBuild") (hi : k.1.name = "<init>") (hKo : tb_K M o = 8) (kk : tb_Wp E k d rc rs pc' L S (tb_sR M o 1 x) Q) : tb_Wp E k d rc rs pc L (.inr (.inl x) :: .inr (.inl o) :: S) M Q := tb_putF (C0 := n_TB) (T := T_TB) (N := 8) (ci := 7) (j := 1) hd hp rfl (by decide) in_TB y_TB ty_TB nm_TB (by decide) rfl (by rw [hk]; exact fl_TB_19) rfl hk.symm hi hKo (by cases x <;> rfl) (by cases x <;> rfl) kk
theorem fl_TB_28 : tb_I1 (Cond.fieldLink "TracedBuild" 28 (T_TB 2).1 (T_TB 2).2.1 (T_TB 2).2.2.1) := tb_ix 242 (by decide +kernel) rfl
theorem g_TB_28 {o : Nat} (hd : decode k.2.1 pc = .ok (.getfield 28, 3)) (hp : pc + 3 = pc') (hk : k.1.cls = "TracedBuild") (hKo : tb_K M o = 8) (kk : tb_Wp E k d rc rs pc' L (.inr (.inl (tb_R M o 2)) :: S) M Q) : tb_Wp E k d rc rs pc L (.inr (.inl o) :: S) M Q := tb_getR (C0 := n_TB) (T := T_TB) (N := 8) (ci := 7) (j := 2) hd hp rfl (by decide) in_TB (by decide) rfl (by rw [hk]; exact fl_TB_28) hKo kk
theorem p_TB_28 {o x : Nat} (hd : decode k.2.1 pc = .ok (.putfield 28, 3)) (hp : pc + 3 = pc') (hk : k.1.cls = "TracedBuild") (hi : k.1.name = "<init>") (hKo : tb_K M o = 8) (kk : tb_Wp E k d rc rs pc' L S (tb_sR M o 2 x) Q) : tb_Wp E k d rc rs pc L (.inr (.inl x) :: .inr (.inl o) :: S) M Q := tb_putF (C0 := n_TB) (T := T_TB) (N := 8) (ci := 7) (j := 2) hd hp rfl (by decide) in_TB y_TB ty_TB nm_TB (by decide) rfl (by rw [hk]; exact fl_TB_28) rfl hk.symm hi hKo (by cases x <;> rfl) (by cases x <;> rfl) kk
theorem fl_TB_32 : tb_I1 (Cond.fieldLink "TracedBuild" 32 (T_TB 3).1 (T_TB 3).2.1 (T_TB 3).2.2.1) := tb_ix 243 (by decide +kernel) rfl
theorem g_TB_32 {o : Nat} (hd : decode k.2.1 pc = .ok (.getfield 32, 3)) (hp : pc + 3 = pc') (hk : k.1.cls = "TracedBuild") (hKo : tb_K M o = 8) (kk : tb_Wp E k d rc rs pc' L (.inr (.inl (tb_R M o 3)) :: S) M Q) : tb_Wp E k d rc rs pc L (.inr (.inl o) :: S) M Q := tb_getR (C0 := n_TB) (T := T_TB) (N := 8) (ci := 7) (j := 3) hd hp rfl (by decide) in_TB (by decide) rfl (by rw [hk]; exact fl_TB_32) hKo kk
theorem p_TB_32 {o x : Nat} (hd : decode k.2.1 pc = .ok (.putfield 32, 3)) (hp : pc + 3 = pc') (hk : k.1.cls = "TracedBuild") (hi : k.1.name = "<init>") (hKo : tb_K M o = 8) (kk : tb_Wp E k d rc rs pc' L S (tb_sR M o 3 x) Q) : tb_Wp E k d rc rs pc L (.inr (.inl x) :: .inr (.inl o) :: S) M Q := tb_putF (C0 := n_TB) (T := T_TB) (N := 8) (ci := 7) (j := 3) hd hp rfl (by decide) in_TB y_TB ty_TB nm_TB (by decide) rfl (by rw [hk]; exact fl_TB_32) rfl hk.symm hi hKo (by cases x <;> rfl) (by cases x <;> rfl) kk
theorem fl_TB_38 : tb_I1 (Cond.fieldLink "TracedBuild" 38 (T_TB 4).1 (T_TB 4).2.1 (T_TB 4).2.2.1) := tb_ix 244 (by decide +kernel) rfl
theorem g_TB_38 {o : Nat} (hd : decode k.2.1 pc = .ok (.getfield 38, 3)) (hp : pc + 3 = pc') (hk : k.1.cls = "TracedBuild") (hKo : tb_K M o = 8) (kk : tb_Wp E k d rc rs pc' L (.inr (.inl (tb_R M o 4)) :: S) M Q) : tb_Wp E k d rc rs pc L (.inr (.inl o) :: S) M Q := tb_getR (C0 := n_TB) (T := T_TB) (N := 8) (ci := 7) (j := 4) hd hp rfl (by decide) in_TB (by decide) rfl (by rw [hk]; exact fl_TB_38) hKo kk
theorem p_TB_38 {o x : Nat} (hd : decode k.2.1 pc = .ok (.putfield 38, 3)) (hp : pc + 3 = pc') (hk : k.1.cls = "TracedBuild") (hi : k.1.name = "<init>") (hKo : tb_K M o = 8) (kk : tb_Wp E k d rc rs pc' L S (tb_sR M o 4 x) Q) : tb_Wp E k d rc rs pc L (.inr (.inl x) :: .inr (.inl o) :: S) M Q := tb_putF (C0 := n_TB) (T := T_TB) (N := 8) (ci := 7) (j := 4) hd hp rfl (by decide) in_TB y_TB ty_TB nm_TB (by decide) rfl (by rw [hk]; exact fl_TB_38) rfl hk.symm hi hKo (by cases x <;> rfl) (by cases x <;> rfl) kk
theorem fl_TB_45 : tb_I1 (Cond.fieldLink "TracedBuild" 45 (T_TB 5).1 (T_TB 5).2.1 (T_TB 5).2.2.1) := tb_ix 245 (by decide +kernel) rfl
theorem g_TB_45 {o : Nat} (hd : decode k.2.1 pc = .ok (.getfield 45, 3)) (hp : pc + 3 = pc') (hk : k.1.cls = "TracedBuild") (hKo : tb_K M o = 8) (kk : tb_Wp E k d rc rs pc' L (.inr (.inl (tb_R M o 5)) :: S) M Q) : tb_Wp E k d rc rs pc L (.inr (.inl o) :: S) M Q := tb_getR (C0 := n_TB) (T := T_TB) (N := 8) (ci := 7) (j := 5) hd hp rfl (by decide) in_TB (by decide) rfl (by rw [hk]; exact fl_TB_45) hKo kk
theorem p_TB_45 {o x : Nat} (hd : decode k.2.1 pc = .ok (.putfield 45, 3)) (hp : pc + 3 = pc') (hk : k.1.cls = "TracedBuild") (hi : k.1.name = "<init>") (hKo : tb_K M o = 8) (kk : tb_Wp E k d rc rs pc' L S (tb_sR M o 5 x) Q) : tb_Wp E k d rc rs pc L (.inr (.inl x) :: .inr (.inl o) :: S) M Q := tb_putF (C0 := n_TB) (T := T_TB) (N := 8) (ci := 7) (j := 5) hd hp rfl (by decide) in_TB y_TB ty_TB nm_TB (by decide) rfl (by rw [hk]; exact fl_TB_45) rfl hk.symm hi hKo (by cases x <;> rfl) (by cases x <;> rfl) kk
theorem fl_TB_49 : tb_I1 (Cond.fieldLink "TracedBuild" 49 (T_TB 6).1 (T_TB 6).2.1 (T_TB 6).2.2.1) := tb_ix 246 (by decide +kernel) rfl
theorem g_TB_49 {o : Nat} (hd : decode k.2.1 pc = .ok (.getfield 49, 3)) (hp : pc + 3 = pc') (hk : k.1.cls = "TracedBuild") (hKo : tb_K M o = 8) (kk : tb_Wp E k d rc rs pc' L (.inl (tb_I M o 6) :: S) M Q) : tb_Wp E k d rc rs pc L (.inr (.inl o) :: S) M Q := tb_getI (C0 := n_TB) (T := T_TB) (N := 8) (ci := 7) (j := 6) hd hp rfl (by decide) in_TB (by decide) rfl (by rw [hk]; exact fl_TB_49) hKo kk
theorem p_TB_49 {o : Nat} {x : Int32} (hd : decode k.2.1 pc = .ok (.putfield 49, 3)) (hp : pc + 3 = pc') (hk : k.1.cls = "TracedBuild") (hKo : tb_K M o = 8) (hx : x = 0 ∨ x = 1) (kk : tb_Wp E k d rc rs pc' L S (tb_sI M o 6 x) Q) : tb_Wp E k d rc rs pc L (.inl x :: .inr (.inl o) :: S) M Q := tb_putI (C0 := n_TB) (T := T_TB) (N := 8) (ci := 7) (j := 6) hd hp rfl (by decide) in_TB y_TB ty_TB nm_TB (by decide) rfl (by rw [hk]; exact fl_TB_49) rfl hKo (by rcases hx with rfl | rfl <;> rfl) (by rcases hx with rfl | rfl <;> rfl) kk
theorem fl_TB_53 : tb_I1 (Cond.fieldLink "TracedBuild" 53 (T_TB 7).1 (T_TB 7).2.1 (T_TB 7).2.2.1) := tb_ix 247 (by decide +kernel) rfl
theorem g_TB_53 {o : Nat} (hd : decode k.2.1 pc = .ok (.getfield 53, 3)) (hp : pc + 3 = pc') (hk : k.1.cls = "TracedBuild") (hKo : tb_K M o = 8) (kk : tb_Wp E k d rc rs pc' L (.inl (tb_I M o 7) :: S) M Q) : tb_Wp E k d rc rs pc L (.inr (.inl o) :: S) M Q := tb_getI (C0 := n_TB) (T := T_TB) (N := 8) (ci := 7) (j := 7) hd hp rfl (by decide) in_TB (by decide) rfl (by rw [hk]; exact fl_TB_53) hKo kk
theorem p_TB_53 {o : Nat} {x : Int32} (hd : decode k.2.1 pc = .ok (.putfield 53, 3)) (hp : pc + 3 = pc') (hk : k.1.cls = "TracedBuild") (hKo : tb_K M o = 8) (kk : tb_Wp E k d rc rs pc' L S (tb_sI M o 7 x) Q) : tb_Wp E k d rc rs pc L (.inl x :: .inr (.inl o) :: S) M Q := tb_putI (C0 := n_TB) (T := T_TB) (N := 8) (ci := 7) (j := 7) hd hp rfl (by decide) in_TB y_TB ty_TB nm_TB (by decide) rfl (by rw [hk]; exact fl_TB_53) rfl hKo rfl rfl kk
theorem fl_TB_137 : Cond.fieldLinkNest "TracedBuild" 137 (T_De 0).1 (T_De 0).2.1 (T_De 0).2.2.1 "TracedBuild" ∈ tb_nest := by decide +kernel
theorem g_TB_137 {o : Nat} (hd : decode k.2.1 pc = .ok (.getfield 137, 3)) (hp : pc + 3 = pc') (hk : k.1.cls = "TracedBuild") (hKo : tb_K M o = 1) (kk : tb_Wp E k d rc rs pc' L (.inl (tb_I M o 0) :: S) M Q) : tb_Wp E k d rc rs pc L (.inr (.inl o) :: S) M Q := tb_getIN (C0 := n_De) (T := T_De) (N := 7) (ci := 0) (j := 0) hd hp rfl (by decide) in_De (by decide) rfl (by rw [hk]; exact fl_TB_137) hKo kk
theorem fl_TB_142 : Cond.fieldLinkNest "TracedBuild" 142 (T_De 1).1 (T_De 1).2.1 (T_De 1).2.2.1 "TracedBuild" ∈ tb_nest := by decide +kernel
theorem g_TB_142 {o : Nat} (hd : decode k.2.1 pc = .ok (.getfield 142, 3)) (hp : pc + 3 = pc') (hk : k.1.cls = "TracedBuild") (hKo : tb_K M o = 1) (kk : tb_Wp E k d rc rs pc' L (.inl (tb_I M o 1) :: S) M Q) : tb_Wp E k d rc rs pc L (.inr (.inl o) :: S) M Q := tb_getIN (C0 := n_De) (T := T_De) (N := 7) (ci := 0) (j := 1) hd hp rfl (by decide) in_De (by decide) rfl (by rw [hk]; exact fl_TB_142) hKo kk
theorem fl_Mo_7 : tb_I1 (Cond.fieldLink "TracedBuildModel" 7 (T_Mo 1).1 (T_Mo 1).2.1 (T_Mo 1).2.2.1) := tb_ix 798 (by decide +kernel) rfl
theorem g_Mo_7 {o : Nat} (hd : decode k.2.1 pc = .ok (.getfield 7, 3)) (hp : pc + 3 = pc') (hk : k.1.cls = "TracedBuildModel") (hKo : tb_K M o = 9) (kk : tb_Wp E k d rc rs pc' L (.inr (.inl (tb_R M o 1)) :: S) M Q) : tb_Wp E k d rc rs pc L (.inr (.inl o) :: S) M Q := tb_getR (C0 := n_Mo) (T := T_Mo) (N := 40) (ci := 8) (j := 1) hd hp rfl (by decide) in_Mo (by decide) rfl (by rw [hk]; exact fl_Mo_7) hKo kk
theorem p_Mo_7 {o x : Nat} (hd : decode k.2.1 pc = .ok (.putfield 7, 3)) (hp : pc + 3 = pc') (hk : k.1.cls = "TracedBuildModel") (hi : k.1.name = "<init>") (hKo : tb_K M o = 9) (kk : tb_Wp E k d rc rs pc' L S (tb_sR M o 1 x) Q) : tb_Wp E k d rc rs pc L (.inr (.inl x) :: .inr (.inl o) :: S) M Q := tb_putF (C0 := n_Mo) (T := T_Mo) (N := 40) (ci := 8) (j := 1) hd hp rfl (by decide) in_Mo y_Mo ty_Mo nm_Mo (by decide) rfl (by rw [hk]; exact fl_Mo_7) rfl hk.symm hi hKo (by cases x <;> rfl) (by cases x <;> rfl) kk
theorem fl_Mo_13 : tb_I1 (Cond.fieldLink "TracedBuildModel" 13 (T_Mo 2).1 (T_Mo 2).2.1 (T_Mo 2).2.2.1) := tb_ix 799 (by decide +kernel) rfl
theorem g_Mo_13 {o : Nat} (hd : decode k.2.1 pc = .ok (.getfield 13, 3)) (hp : pc + 3 = pc') (hk : k.1.cls = "TracedBuildModel") (hKo : tb_K M o = 9) (kk : tb_Wp E k d rc rs pc' L (.inr (.inl (tb_R M o 2)) :: S) M Q) : tb_Wp E k d rc rs pc L (.inr (.inl o) :: S) M Q := tb_getR (C0 := n_Mo) (T := T_Mo) (N := 40) (ci := 8) (j := 2) hd hp rfl (by decide) in_Mo (by decide) rfl (by rw [hk]; exact fl_Mo_13) hKo kk
theorem p_Mo_13 {o x : Nat} (hd : decode k.2.1 pc = .ok (.putfield 13, 3)) (hp : pc + 3 = pc') (hk : k.1.cls = "TracedBuildModel") (hi : k.1.name = "<init>") (hKo : tb_K M o = 9) (kk : tb_Wp E k d rc rs pc' L S (tb_sR M o 2 x) Q) : tb_Wp E k d rc rs pc L (.inr (.inl x) :: .inr (.inl o) :: S) M Q := tb_putF (C0 := n_Mo) (T := T_Mo) (N := 40) (ci := 8) (j := 2) hd hp rfl (by decide) in_Mo y_Mo ty_Mo nm_Mo (by decide) rfl (by rw [hk]; exact fl_Mo_13) rfl hk.symm hi hKo (by cases x <;> rfl) (by cases x <;> rfl) kk
theorem fl_Mo_16 : tb_I1 (Cond.fieldLink "TracedBuildModel" 16 (T_Mo 3).1 (T_Mo 3).2.1 (T_Mo 3).2.2.1) := tb_ix 800 (by decide +kernel) rfl
theorem g_Mo_16 {o : Nat} (hd : decode k.2.1 pc = .ok (.getfield 16, 3)) (hp : pc + 3 = pc') (hk : k.1.cls = "TracedBuildModel") (hKo : tb_K M o = 9) (kk : tb_Wp E k d rc rs pc' L (.inr (.inl (tb_R M o 3)) :: S) M Q) : tb_Wp E k d rc rs pc L (.inr (.inl o) :: S) M Q := tb_getR (C0 := n_Mo) (T := T_Mo) (N := 40) (ci := 8) (j := 3) hd hp rfl (by decide) in_Mo (by decide) rfl (by rw [hk]; exact fl_Mo_16) hKo kk
theorem p_Mo_16 {o x : Nat} (hd : decode k.2.1 pc = .ok (.putfield 16, 3)) (hp : pc + 3 = pc') (hk : k.1.cls = "TracedBuildModel") (hi : k.1.name = "<init>") (hKo : tb_K M o = 9) (kk : tb_Wp E k d rc rs pc' L S (tb_sR M o 3 x) Q) : tb_Wp E k d rc rs pc L (.inr (.inl x) :: .inr (.inl o) :: S) M Q := tb_putF (C0 := n_Mo) (T := T_Mo) (N := 40) (ci := 8) (j := 3) hd hp rfl (by decide) in_Mo y_Mo ty_Mo nm_Mo (by decide) rfl (by rw [hk]; exact fl_Mo_16) rfl hk.symm hi hKo (by cases x <;> rfl) (by cases x <;> rfl) kk
theorem fl_Mo_19 : tb_I1 (Cond.fieldLink "TracedBuildModel" 19 (T_Mo 4).1 (T_Mo 4).2.1 (T_Mo 4).2.2.1) := tb_ix 801 (by decide +kernel) rfl
theorem g_Mo_19 {o : Nat} (hd : decode k.2.1 pc = .ok (.getfield 19, 3)) (hp : pc + 3 = pc') (hk : k.1.cls = "TracedBuildModel") (hKo : tb_K M o = 9) (kk : tb_Wp E k d rc rs pc' L (.inr (.inl (tb_R M o 4)) :: S) M Q) : tb_Wp E k d rc rs pc L (.inr (.inl o) :: S) M Q := tb_getR (C0 := n_Mo) (T := T_Mo) (N := 40) (ci := 8) (j := 4) hd hp rfl (by decide) in_Mo (by decide) rfl (by rw [hk]; exact fl_Mo_19) hKo kk
theorem p_Mo_19 {o x : Nat} (hd : decode k.2.1 pc = .ok (.putfield 19, 3)) (hp : pc + 3 = pc') (hk : k.1.cls = "TracedBuildModel") (hi : k.1.name = "<init>") (hKo : tb_K M o = 9) (kk : tb_Wp E k d rc rs pc' L S (tb_sR M o 4 x) Q) : tb_Wp E k d rc rs pc L (.inr (.inl x) :: .inr (.inl o) :: S) M Q := tb_putF (C0 := n_Mo) (T := T_Mo) (N := 40) (ci := 8) (j := 4) hd hp rfl (by decide) in_Mo y_Mo ty_Mo nm_Mo (by decide) rfl (by rw [hk]; exact fl_Mo_19) rfl hk.symm hi hKo (by cases x <;> rfl) (by cases x <;> rfl) kk
theorem fl_Mo_22 : tb_I1 (Cond.fieldLink "TracedBuildModel" 22 (T_Mo 6).1 (T_Mo 6).2.1 (T_Mo 6).2.2.1) := tb_ix 803 (by decide +kernel) rfl
theorem g_Mo_22 {o : Nat} (hd : decode k.2.1 pc = .ok (.getfield 22, 3)) (hp : pc + 3 = pc') (hk : k.1.cls = "TracedBuildModel") (hKo : tb_K M o = 9) (kk : tb_Wp E k d rc rs pc' L (.inr (.inl (tb_R M o 6)) :: S) M Q) : tb_Wp E k d rc rs pc L (.inr (.inl o) :: S) M Q := tb_getR (C0 := n_Mo) (T := T_Mo) (N := 40) (ci := 8) (j := 6) hd hp rfl (by decide) in_Mo (by decide) rfl (by rw [hk]; exact fl_Mo_22) hKo kk
theorem p_Mo_22 {o x : Nat} (hd : decode k.2.1 pc = .ok (.putfield 22, 3)) (hp : pc + 3 = pc') (hk : k.1.cls = "TracedBuildModel") (hi : k.1.name = "<init>") (hKo : tb_K M o = 9) (kk : tb_Wp E k d rc rs pc' L S (tb_sR M o 6 x) Q) : tb_Wp E k d rc rs pc L (.inr (.inl x) :: .inr (.inl o) :: S) M Q := tb_putF (C0 := n_Mo) (T := T_Mo) (N := 40) (ci := 8) (j := 6) hd hp rfl (by decide) in_Mo y_Mo ty_Mo nm_Mo (by decide) rfl (by rw [hk]; exact fl_Mo_22) rfl hk.symm hi hKo (by cases x <;> rfl) (by cases x <;> rfl) kk
theorem fl_Mo_25 : tb_I1 (Cond.fieldLink "TracedBuildModel" 25 (T_Mo 8).1 (T_Mo 8).2.1 (T_Mo 8).2.2.1) := tb_ix 805 (by decide +kernel) rfl
theorem g_Mo_25 {o : Nat} (hd : decode k.2.1 pc = .ok (.getfield 25, 3)) (hp : pc + 3 = pc') (hk : k.1.cls = "TracedBuildModel") (hKo : tb_K M o = 9) (kk : tb_Wp E k d rc rs pc' L (.inr (.inl (tb_R M o 8)) :: S) M Q) : tb_Wp E k d rc rs pc L (.inr (.inl o) :: S) M Q := tb_getR (C0 := n_Mo) (T := T_Mo) (N := 40) (ci := 8) (j := 8) hd hp rfl (by decide) in_Mo (by decide) rfl (by rw [hk]; exact fl_Mo_25) hKo kk
theorem p_Mo_25 {o x : Nat} (hd : decode k.2.1 pc = .ok (.putfield 25, 3)) (hp : pc + 3 = pc') (hk : k.1.cls = "TracedBuildModel") (hi : k.1.name = "<init>") (hKo : tb_K M o = 9) (kk : tb_Wp E k d rc rs pc' L S (tb_sR M o 8 x) Q) : tb_Wp E k d rc rs pc L (.inr (.inl x) :: .inr (.inl o) :: S) M Q := tb_putF (C0 := n_Mo) (T := T_Mo) (N := 40) (ci := 8) (j := 8) hd hp rfl (by decide) in_Mo y_Mo ty_Mo nm_Mo (by decide) rfl (by rw [hk]; exact fl_Mo_25) rfl hk.symm hi hKo (by cases x <;> rfl) (by cases x <;> rfl) kk
theorem fl_Mo_28 : tb_I1 (Cond.fieldLink "TracedBuildModel" 28 (T_Mo 9).1 (T_Mo 9).2.1 (T_Mo 9).2.2.1) := tb_ix 806 (by decide +kernel) rfl
theorem g_Mo_28 {o : Nat} (hd : decode k.2.1 pc = .ok (.getfield 28, 3)) (hp : pc + 3 = pc') (hk : k.1.cls = "TracedBuildModel") (hKo : tb_K M o = 9) (kk : tb_Wp E k d rc rs pc' L (.inr (.inl (tb_R M o 9)) :: S) M Q) : tb_Wp E k d rc rs pc L (.inr (.inl o) :: S) M Q := tb_getR (C0 := n_Mo) (T := T_Mo) (N := 40) (ci := 8) (j := 9) hd hp rfl (by decide) in_Mo (by decide) rfl (by rw [hk]; exact fl_Mo_28) hKo kk
theorem p_Mo_28 {o x : Nat} (hd : decode k.2.1 pc = .ok (.putfield 28, 3)) (hp : pc + 3 = pc') (hk : k.1.cls = "TracedBuildModel") (hi : k.1.name = "<init>") (hKo : tb_K M o = 9) (kk : tb_Wp E k d rc rs pc' L S (tb_sR M o 9 x) Q) : tb_Wp E k d rc rs pc L (.inr (.inl x) :: .inr (.inl o) :: S) M Q := tb_putF (C0 := n_Mo) (T := T_Mo) (N := 40) (ci := 8) (j := 9) hd hp rfl (by decide) in_Mo y_Mo ty_Mo nm_Mo (by decide) rfl (by rw [hk]; exact fl_Mo_28) rfl hk.symm hi hKo (by cases x <;> rfl) (by cases x <;> rfl) kk
theorem fl_Mo_31 : tb_I1 (Cond.fieldLink "TracedBuildModel" 31 (T_Mo 11).1 (T_Mo 11).2.1 (T_Mo 11).2.2.1) := tb_ix 808 (by decide +kernel) rfl
theorem g_Mo_31 {o : Nat} (hd : decode k.2.1 pc = .ok (.getfield 31, 3)) (hp : pc + 3 = pc') (hk : k.1.cls = "TracedBuildModel") (hKo : tb_K M o = 9) (kk : tb_Wp E k d rc rs pc' L (.inr (.inl (tb_R M o 11)) :: S) M Q) : tb_Wp E k d rc rs pc L (.inr (.inl o) :: S) M Q := tb_getR (C0 := n_Mo) (T := T_Mo) (N := 40) (ci := 8) (j := 11) hd hp rfl (by decide) in_Mo (by decide) rfl (by rw [hk]; exact fl_Mo_31) hKo kk
theorem p_Mo_31 {o x : Nat} (hd : decode k.2.1 pc = .ok (.putfield 31, 3)) (hp : pc + 3 = pc') (hk : k.1.cls = "TracedBuildModel") (hi : k.1.name = "<init>") (hKo : tb_K M o = 9) (kk : tb_Wp E k d rc rs pc' L S (tb_sR M o 11 x) Q) : tb_Wp E k d rc rs pc L (.inr (.inl x) :: .inr (.inl o) :: S) M Q := tb_putF (C0 := n_Mo) (T := T_Mo) (N := 40) (ci := 8) (j := 11) hd hp rfl (by decide) in_Mo y_Mo ty_Mo nm_Mo (by decide) rfl (by rw [hk]; exact fl_Mo_31) rfl hk.symm hi hKo (by cases x <;> rfl) (by cases x <;> rfl) kk
theorem fl_Mo_34 : tb_I1 (Cond.fieldLink "TracedBuildModel" 34 (T_Mo 12).1 (T_Mo 12).2.1 (T_Mo 12).2.2.1) := tb_ix 809 (by decide +kernel) rfl
theorem g_Mo_34 {o : Nat} (hd : decode k.2.1 pc = .ok (.getfield 34, 3)) (hp : pc + 3 = pc') (hk : k.1.cls = "TracedBuildModel") (hKo : tb_K M o = 9) (kk : tb_Wp E k d rc rs pc' L (.inr (.inl (tb_R M o 12)) :: S) M Q) : tb_Wp E k d rc rs pc L (.inr (.inl o) :: S) M Q := tb_getR (C0 := n_Mo) (T := T_Mo) (N := 40) (ci := 8) (j := 12) hd hp rfl (by decide) in_Mo (by decide) rfl (by rw [hk]; exact fl_Mo_34) hKo kk
theorem p_Mo_34 {o x : Nat} (hd : decode k.2.1 pc = .ok (.putfield 34, 3)) (hp : pc + 3 = pc') (hk : k.1.cls = "TracedBuildModel") (hi : k.1.name = "<init>") (hKo : tb_K M o = 9) (kk : tb_Wp E k d rc rs pc' L S (tb_sR M o 12 x) Q) : tb_Wp E k d rc rs pc L (.inr (.inl x) :: .inr (.inl o) :: S) M Q := tb_putF (C0 := n_Mo) (T := T_Mo) (N := 40) (ci := 8) (j := 12) hd hp rfl (by decide) in_Mo y_Mo ty_Mo nm_Mo (by decide) rfl (by rw [hk]; exact fl_Mo_34) rfl hk.symm hi hKo (by cases x <;> rfl) (by cases x <;> rfl) kk
theorem fl_Mo_37 : tb_I1 (Cond.fieldLink "TracedBuildModel" 37 (T_Mo 13).1 (T_Mo 13).2.1 (T_Mo 13).2.2.1) := tb_ix 810 (by decide +kernel) rfl
theorem g_Mo_37 {o : Nat} (hd : decode k.2.1 pc = .ok (.getfield 37, 3)) (hp : pc + 3 = pc') (hk : k.1.cls = "TracedBuildModel") (hKo : tb_K M o = 9) (kk : tb_Wp E k d rc rs pc' L (.inr (.inl (tb_R M o 13)) :: S) M Q) : tb_Wp E k d rc rs pc L (.inr (.inl o) :: S) M Q := tb_getR (C0 := n_Mo) (T := T_Mo) (N := 40) (ci := 8) (j := 13) hd hp rfl (by decide) in_Mo (by decide) rfl (by rw [hk]; exact fl_Mo_37) hKo kk
theorem p_Mo_37 {o x : Nat} (hd : decode k.2.1 pc = .ok (.putfield 37, 3)) (hp : pc + 3 = pc') (hk : k.1.cls = "TracedBuildModel") (hi : k.1.name = "<init>") (hKo : tb_K M o = 9) (kk : tb_Wp E k d rc rs pc' L S (tb_sR M o 13 x) Q) : tb_Wp E k d rc rs pc L (.inr (.inl x) :: .inr (.inl o) :: S) M Q := tb_putF (C0 := n_Mo) (T := T_Mo) (N := 40) (ci := 8) (j := 13) hd hp rfl (by decide) in_Mo y_Mo ty_Mo nm_Mo (by decide) rfl (by rw [hk]; exact fl_Mo_37) rfl hk.symm hi hKo (by cases x <;> rfl) (by cases x <;> rfl) kk
theorem fl_Mo_40 : tb_I1 (Cond.fieldLink "TracedBuildModel" 40 (T_Mo 14).1 (T_Mo 14).2.1 (T_Mo 14).2.2.1) := tb_ix 811 (by decide +kernel) rfl
theorem g_Mo_40 {o : Nat} (hd : decode k.2.1 pc = .ok (.getfield 40, 3)) (hp : pc + 3 = pc') (hk : k.1.cls = "TracedBuildModel") (hKo : tb_K M o = 9) (kk : tb_Wp E k d rc rs pc' L (.inr (.inl (tb_R M o 14)) :: S) M Q) : tb_Wp E k d rc rs pc L (.inr (.inl o) :: S) M Q := tb_getR (C0 := n_Mo) (T := T_Mo) (N := 40) (ci := 8) (j := 14) hd hp rfl (by decide) in_Mo (by decide) rfl (by rw [hk]; exact fl_Mo_40) hKo kk
theorem p_Mo_40 {o x : Nat} (hd : decode k.2.1 pc = .ok (.putfield 40, 3)) (hp : pc + 3 = pc') (hk : k.1.cls = "TracedBuildModel") (hi : k.1.name = "<init>") (hKo : tb_K M o = 9) (kk : tb_Wp E k d rc rs pc' L S (tb_sR M o 14 x) Q) : tb_Wp E k d rc rs pc L (.inr (.inl x) :: .inr (.inl o) :: S) M Q := tb_putF (C0 := n_Mo) (T := T_Mo) (N := 40) (ci := 8) (j := 14) hd hp rfl (by decide) in_Mo y_Mo ty_Mo nm_Mo (by decide) rfl (by rw [hk]; exact fl_Mo_40) rfl hk.symm hi hKo (by cases x <;> rfl) (by cases x <;> rfl) kk
theorem fl_Mo_43 : tb_I1 (Cond.fieldLink "TracedBuildModel" 43 (T_Mo 15).1 (T_Mo 15).2.1 (T_Mo 15).2.2.1) := tb_ix 812 (by decide +kernel) rfl
theorem g_Mo_43 {o : Nat} (hd : decode k.2.1 pc = .ok (.getfield 43, 3)) (hp : pc + 3 = pc') (hk : k.1.cls = "TracedBuildModel") (hKo : tb_K M o = 9) (kk : tb_Wp E k d rc rs pc' L (.inr (.inl (tb_R M o 15)) :: S) M Q) : tb_Wp E k d rc rs pc L (.inr (.inl o) :: S) M Q := tb_getR (C0 := n_Mo) (T := T_Mo) (N := 40) (ci := 8) (j := 15) hd hp rfl (by decide) in_Mo (by decide) rfl (by rw [hk]; exact fl_Mo_43) hKo kk
theorem p_Mo_43 {o x : Nat} (hd : decode k.2.1 pc = .ok (.putfield 43, 3)) (hp : pc + 3 = pc') (hk : k.1.cls = "TracedBuildModel") (hi : k.1.name = "<init>") (hKo : tb_K M o = 9) (kk : tb_Wp E k d rc rs pc' L S (tb_sR M o 15 x) Q) : tb_Wp E k d rc rs pc L (.inr (.inl x) :: .inr (.inl o) :: S) M Q := tb_putF (C0 := n_Mo) (T := T_Mo) (N := 40) (ci := 8) (j := 15) hd hp rfl (by decide) in_Mo y_Mo ty_Mo nm_Mo (by decide) rfl (by rw [hk]; exact fl_Mo_43) rfl hk.symm hi hKo (by cases x <;> rfl) (by cases x <;> rfl) kk
theorem fl_Mo_46 : tb_I1 (Cond.fieldLink "TracedBuildModel" 46 (T_Mo 16).1 (T_Mo 16).2.1 (T_Mo 16).2.2.1) := tb_ix 813 (by decide +kernel) rfl
theorem g_Mo_46 {o : Nat} (hd : decode k.2.1 pc = .ok (.getfield 46, 3)) (hp : pc + 3 = pc') (hk : k.1.cls = "TracedBuildModel") (hKo : tb_K M o = 9) (kk : tb_Wp E k d rc rs pc' L (.inr (.inl (tb_R M o 16)) :: S) M Q) : tb_Wp E k d rc rs pc L (.inr (.inl o) :: S) M Q := tb_getR (C0 := n_Mo) (T := T_Mo) (N := 40) (ci := 8) (j := 16) hd hp rfl (by decide) in_Mo (by decide) rfl (by rw [hk]; exact fl_Mo_46) hKo kk
theorem p_Mo_46 {o x : Nat} (hd : decode k.2.1 pc = .ok (.putfield 46, 3)) (hp : pc + 3 = pc') (hk : k.1.cls = "TracedBuildModel") (hi : k.1.name = "<init>") (hKo : tb_K M o = 9) (kk : tb_Wp E k d rc rs pc' L S (tb_sR M o 16 x) Q) : tb_Wp E k d rc rs pc L (.inr (.inl x) :: .inr (.inl o) :: S) M Q := tb_putF (C0 := n_Mo) (T := T_Mo) (N := 40) (ci := 8) (j := 16) hd hp rfl (by decide) in_Mo y_Mo ty_Mo nm_Mo (by decide) rfl (by rw [hk]; exact fl_Mo_46) rfl hk.symm hi hKo (by cases x <;> rfl) (by cases x <;> rfl) kk
theorem fl_Mo_49 : tb_I1 (Cond.fieldLink "TracedBuildModel" 49 (T_Mo 17).1 (T_Mo 17).2.1 (T_Mo 17).2.2.1) := tb_ix 814 (by decide +kernel) rfl
theorem g_Mo_49 {o : Nat} (hd : decode k.2.1 pc = .ok (.getfield 49, 3)) (hp : pc + 3 = pc') (hk : k.1.cls = "TracedBuildModel") (hKo : tb_K M o = 9) (kk : tb_Wp E k d rc rs pc' L (.inr (.inl (tb_R M o 17)) :: S) M Q) : tb_Wp E k d rc rs pc L (.inr (.inl o) :: S) M Q := tb_getR (C0 := n_Mo) (T := T_Mo) (N := 40) (ci := 8) (j := 17) hd hp rfl (by decide) in_Mo (by decide) rfl (by rw [hk]; exact fl_Mo_49) hKo kk
theorem p_Mo_49 {o x : Nat} (hd : decode k.2.1 pc = .ok (.putfield 49, 3)) (hp : pc + 3 = pc') (hk : k.1.cls = "TracedBuildModel") (hi : k.1.name = "<init>") (hKo : tb_K M o = 9) (kk : tb_Wp E k d rc rs pc' L S (tb_sR M o 17 x) Q) : tb_Wp E k d rc rs pc L (.inr (.inl x) :: .inr (.inl o) :: S) M Q := tb_putF (C0 := n_Mo) (T := T_Mo) (N := 40) (ci := 8) (j := 17) hd hp rfl (by decide) in_Mo y_Mo ty_Mo nm_Mo (by decide) rfl (by rw [hk]; exact fl_Mo_49) rfl hk.symm hi hKo (by cases x <;> rfl) (by cases x <;> rfl) kk
theorem fl_Mo_52 : tb_I1 (Cond.fieldLink "TracedBuildModel" 52 (T_Mo 18).1 (T_Mo 18).2.1 (T_Mo 18).2.2.1) := tb_ix 815 (by decide +kernel) rfl
theorem g_Mo_52 {o : Nat} (hd : decode k.2.1 pc = .ok (.getfield 52, 3)) (hp : pc + 3 = pc') (hk : k.1.cls = "TracedBuildModel") (hKo : tb_K M o = 9) (kk : tb_Wp E k d rc rs pc' L (.inr (.inl (tb_R M o 18)) :: S) M Q) : tb_Wp E k d rc rs pc L (.inr (.inl o) :: S) M Q := tb_getR (C0 := n_Mo) (T := T_Mo) (N := 40) (ci := 8) (j := 18) hd hp rfl (by decide) in_Mo (by decide) rfl (by rw [hk]; exact fl_Mo_52) hKo kk
theorem p_Mo_52 {o x : Nat} (hd : decode k.2.1 pc = .ok (.putfield 52, 3)) (hp : pc + 3 = pc') (hk : k.1.cls = "TracedBuildModel") (hi : k.1.name = "<init>") (hKo : tb_K M o = 9) (kk : tb_Wp E k d rc rs pc' L S (tb_sR M o 18 x) Q) : tb_Wp E k d rc rs pc L (.inr (.inl x) :: .inr (.inl o) :: S) M Q := tb_putF (C0 := n_Mo) (T := T_Mo) (N := 40) (ci := 8) (j := 18) hd hp rfl (by decide) in_Mo y_Mo ty_Mo nm_Mo (by decide) rfl (by rw [hk]; exact fl_Mo_52) rfl hk.symm hi hKo (by cases x <;> rfl) (by cases x <;> rfl) kk
theorem fl_Mo_55 : tb_I1 (Cond.fieldLink "TracedBuildModel" 55 (T_Mo 19).1 (T_Mo 19).2.1 (T_Mo 19).2.2.1) := tb_ix 816 (by decide +kernel) rfl
theorem g_Mo_55 {o : Nat} (hd : decode k.2.1 pc = .ok (.getfield 55, 3)) (hp : pc + 3 = pc') (hk : k.1.cls = "TracedBuildModel") (hKo : tb_K M o = 9) (kk : tb_Wp E k d rc rs pc' L (.inr (.inl (tb_R M o 19)) :: S) M Q) : tb_Wp E k d rc rs pc L (.inr (.inl o) :: S) M Q := tb_getR (C0 := n_Mo) (T := T_Mo) (N := 40) (ci := 8) (j := 19) hd hp rfl (by decide) in_Mo (by decide) rfl (by rw [hk]; exact fl_Mo_55) hKo kk
theorem p_Mo_55 {o x : Nat} (hd : decode k.2.1 pc = .ok (.putfield 55, 3)) (hp : pc + 3 = pc') (hk : k.1.cls = "TracedBuildModel") (hi : k.1.name = "<init>") (hKo : tb_K M o = 9) (kk : tb_Wp E k d rc rs pc' L S (tb_sR M o 19 x) Q) : tb_Wp E k d rc rs pc L (.inr (.inl x) :: .inr (.inl o) :: S) M Q := tb_putF (C0 := n_Mo) (T := T_Mo) (N := 40) (ci := 8) (j := 19) hd hp rfl (by decide) in_Mo y_Mo ty_Mo nm_Mo (by decide) rfl (by rw [hk]; exact fl_Mo_55) rfl hk.symm hi hKo (by cases x <;> rfl) (by cases x <;> rfl) kk
theorem fl_Mo_58 : tb_I1 (Cond.fieldLink "TracedBuildModel" 58 (T_Mo 20).1 (T_Mo 20).2.1 (T_Mo 20).2.2.1) := tb_ix 817 (by decide +kernel) rfl
theorem g_Mo_58 {o : Nat} (hd : decode k.2.1 pc = .ok (.getfield 58, 3)) (hp : pc + 3 = pc') (hk : k.1.cls = "TracedBuildModel") (hKo : tb_K M o = 9) (kk : tb_Wp E k d rc rs pc' L (.inr (.inl (tb_R M o 20)) :: S) M Q) : tb_Wp E k d rc rs pc L (.inr (.inl o) :: S) M Q := tb_getR (C0 := n_Mo) (T := T_Mo) (N := 40) (ci := 8) (j := 20) hd hp rfl (by decide) in_Mo (by decide) rfl (by rw [hk]; exact fl_Mo_58) hKo kk
theorem p_Mo_58 {o x : Nat} (hd : decode k.2.1 pc = .ok (.putfield 58, 3)) (hp : pc + 3 = pc') (hk : k.1.cls = "TracedBuildModel") (hi : k.1.name = "<init>") (hKo : tb_K M o = 9) (kk : tb_Wp E k d rc rs pc' L S (tb_sR M o 20 x) Q) : tb_Wp E k d rc rs pc L (.inr (.inl x) :: .inr (.inl o) :: S) M Q := tb_putF (C0 := n_Mo) (T := T_Mo) (N := 40) (ci := 8) (j := 20) hd hp rfl (by decide) in_Mo y_Mo ty_Mo nm_Mo (by decide) rfl (by rw [hk]; exact fl_Mo_58) rfl hk.symm hi hKo (by cases x <;> rfl) (by cases x <;> rfl) kk
theorem fl_Mo_61 : tb_I1 (Cond.fieldLink "TracedBuildModel" 61 (T_Mo 25).1 (T_Mo 25).2.1 (T_Mo 25).2.2.1) := tb_ix 822 (by decide +kernel) rfl
theorem g_Mo_61 {o : Nat} (hd : decode k.2.1 pc = .ok (.getfield 61, 3)) (hp : pc + 3 = pc') (hk : k.1.cls = "TracedBuildModel") (hKo : tb_K M o = 9) (kk : tb_Wp E k d rc rs pc' L (.inr (.inl (tb_R M o 25)) :: S) M Q) : tb_Wp E k d rc rs pc L (.inr (.inl o) :: S) M Q := tb_getR (C0 := n_Mo) (T := T_Mo) (N := 40) (ci := 8) (j := 25) hd hp rfl (by decide) in_Mo (by decide) rfl (by rw [hk]; exact fl_Mo_61) hKo kk
theorem p_Mo_61 {o x : Nat} (hd : decode k.2.1 pc = .ok (.putfield 61, 3)) (hp : pc + 3 = pc') (hk : k.1.cls = "TracedBuildModel") (hi : k.1.name = "<init>") (hKo : tb_K M o = 9) (kk : tb_Wp E k d rc rs pc' L S (tb_sR M o 25 x) Q) : tb_Wp E k d rc rs pc L (.inr (.inl x) :: .inr (.inl o) :: S) M Q := tb_putF (C0 := n_Mo) (T := T_Mo) (N := 40) (ci := 8) (j := 25) hd hp rfl (by decide) in_Mo y_Mo ty_Mo nm_Mo (by decide) rfl (by rw [hk]; exact fl_Mo_61) rfl hk.symm hi hKo (by cases x <;> rfl) (by cases x <;> rfl) kk
theorem fl_Mo_64 : tb_I1 (Cond.fieldLink "TracedBuildModel" 64 (T_Mo 27).1 (T_Mo 27).2.1 (T_Mo 27).2.2.1) := tb_ix 824 (by decide +kernel) rfl
theorem g_Mo_64 {o : Nat} (hd : decode k.2.1 pc = .ok (.getfield 64, 3)) (hp : pc + 3 = pc') (hk : k.1.cls = "TracedBuildModel") (hKo : tb_K M o = 9) (kk : tb_Wp E k d rc rs pc' L (.inr (.inl (tb_R M o 27)) :: S) M Q) : tb_Wp E k d rc rs pc L (.inr (.inl o) :: S) M Q := tb_getR (C0 := n_Mo) (T := T_Mo) (N := 40) (ci := 8) (j := 27) hd hp rfl (by decide) in_Mo (by decide) rfl (by rw [hk]; exact fl_Mo_64) hKo kk
theorem p_Mo_64 {o x : Nat} (hd : decode k.2.1 pc = .ok (.putfield 64, 3)) (hp : pc + 3 = pc') (hk : k.1.cls = "TracedBuildModel") (hi : k.1.name = "<init>") (hKo : tb_K M o = 9) (kk : tb_Wp E k d rc rs pc' L S (tb_sR M o 27 x) Q) : tb_Wp E k d rc rs pc L (.inr (.inl x) :: .inr (.inl o) :: S) M Q := tb_putF (C0 := n_Mo) (T := T_Mo) (N := 40) (ci := 8) (j := 27) hd hp rfl (by decide) in_Mo y_Mo ty_Mo nm_Mo (by decide) rfl (by rw [hk]; exact fl_Mo_64) rfl hk.symm hi hKo (by cases x <;> rfl) (by cases x <;> rfl) kk
theorem fl_Mo_68 : tb_I1 (Cond.fieldLink "TracedBuildModel" 68 (T_Mo 28).1 (T_Mo 28).2.1 (T_Mo 28).2.2.1) := tb_ix 825 (by decide +kernel) rfl
theorem g_Mo_68 {o : Nat} (hd : decode k.2.1 pc = .ok (.getfield 68, 3)) (hp : pc + 3 = pc') (hk : k.1.cls = "TracedBuildModel") (hKo : tb_K M o = 9) (kk : tb_Wp E k d rc rs pc' L (.inr (.inl (tb_R M o 28)) :: S) M Q) : tb_Wp E k d rc rs pc L (.inr (.inl o) :: S) M Q := tb_getR (C0 := n_Mo) (T := T_Mo) (N := 40) (ci := 8) (j := 28) hd hp rfl (by decide) in_Mo (by decide) rfl (by rw [hk]; exact fl_Mo_68) hKo kk
theorem p_Mo_68 {o x : Nat} (hd : decode k.2.1 pc = .ok (.putfield 68, 3)) (hp : pc + 3 = pc') (hk : k.1.cls = "TracedBuildModel") (hi : k.1.name = "<init>") (hKo : tb_K M o = 9) (kk : tb_Wp E k d rc rs pc' L S (tb_sR M o 28 x) Q) : tb_Wp E k d rc rs pc L (.inr (.inl x) :: .inr (.inl o) :: S) M Q := tb_putF (C0 := n_Mo) (T := T_Mo) (N := 40) (ci := 8) (j := 28) hd hp rfl (by decide) in_Mo y_Mo ty_Mo nm_Mo (by decide) rfl (by rw [hk]; exact fl_Mo_68) rfl hk.symm hi hKo (by cases x <;> rfl) (by cases x <;> rfl) kk
theorem fl_Mo_71 : tb_I1 (Cond.fieldLink "TracedBuildModel" 71 (T_Mo 29).1 (T_Mo 29).2.1 (T_Mo 29).2.2.1) := tb_ix 826 (by decide +kernel) rfl
theorem g_Mo_71 {o : Nat} (hd : decode k.2.1 pc = .ok (.getfield 71, 3)) (hp : pc + 3 = pc') (hk : k.1.cls = "TracedBuildModel") (hKo : tb_K M o = 9) (kk : tb_Wp E k d rc rs pc' L (.inr (.inl (tb_R M o 29)) :: S) M Q) : tb_Wp E k d rc rs pc L (.inr (.inl o) :: S) M Q := tb_getR (C0 := n_Mo) (T := T_Mo) (N := 40) (ci := 8) (j := 29) hd hp rfl (by decide) in_Mo (by decide) rfl (by rw [hk]; exact fl_Mo_71) hKo kk
theorem p_Mo_71 {o x : Nat} (hd : decode k.2.1 pc = .ok (.putfield 71, 3)) (hp : pc + 3 = pc') (hk : k.1.cls = "TracedBuildModel") (hi : k.1.name = "<init>") (hKo : tb_K M o = 9) (kk : tb_Wp E k d rc rs pc' L S (tb_sR M o 29 x) Q) : tb_Wp E k d rc rs pc L (.inr (.inl x) :: .inr (.inl o) :: S) M Q := tb_putF (C0 := n_Mo) (T := T_Mo) (N := 40) (ci := 8) (j := 29) hd hp rfl (by decide) in_Mo y_Mo ty_Mo nm_Mo (by decide) rfl (by rw [hk]; exact fl_Mo_71) rfl hk.symm hi hKo (by cases x <;> rfl) (by cases x <;> rfl) kk
theorem fl_Mo_74 : tb_I1 (Cond.fieldLink "TracedBuildModel" 74 (T_Mo 30).1 (T_Mo 30).2.1 (T_Mo 30).2.2.1) := tb_ix 827 (by decide +kernel) rfl
theorem g_Mo_74 {o : Nat} (hd : decode k.2.1 pc = .ok (.getfield 74, 3)) (hp : pc + 3 = pc') (hk : k.1.cls = "TracedBuildModel") (hKo : tb_K M o = 9) (kk : tb_Wp E k d rc rs pc' L (.inr (.inl (tb_R M o 30)) :: S) M Q) : tb_Wp E k d rc rs pc L (.inr (.inl o) :: S) M Q := tb_getR (C0 := n_Mo) (T := T_Mo) (N := 40) (ci := 8) (j := 30) hd hp rfl (by decide) in_Mo (by decide) rfl (by rw [hk]; exact fl_Mo_74) hKo kk
theorem p_Mo_74 {o x : Nat} (hd : decode k.2.1 pc = .ok (.putfield 74, 3)) (hp : pc + 3 = pc') (hk : k.1.cls = "TracedBuildModel") (hi : k.1.name = "<init>") (hKo : tb_K M o = 9) (kk : tb_Wp E k d rc rs pc' L S (tb_sR M o 30 x) Q) : tb_Wp E k d rc rs pc L (.inr (.inl x) :: .inr (.inl o) :: S) M Q := tb_putF (C0 := n_Mo) (T := T_Mo) (N := 40) (ci := 8) (j := 30) hd hp rfl (by decide) in_Mo y_Mo ty_Mo nm_Mo (by decide) rfl (by rw [hk]; exact fl_Mo_74) rfl hk.symm hi hKo (by cases x <;> rfl) (by cases x <;> rfl) kk
theorem fl_Mo_77 : tb_I1 (Cond.fieldLink "TracedBuildModel" 77 (T_Mo 31).1 (T_Mo 31).2.1 (T_Mo 31).2.2.1) := tb_ix 828 (by decide +kernel) rfl
theorem g_Mo_77 {o : Nat} (hd : decode k.2.1 pc = .ok (.getfield 77, 3)) (hp : pc + 3 = pc') (hk : k.1.cls = "TracedBuildModel") (hKo : tb_K M o = 9) (kk : tb_Wp E k d rc rs pc' L (.inr (.inl (tb_R M o 31)) :: S) M Q) : tb_Wp E k d rc rs pc L (.inr (.inl o) :: S) M Q := tb_getR (C0 := n_Mo) (T := T_Mo) (N := 40) (ci := 8) (j := 31) hd hp rfl (by decide) in_Mo (by decide) rfl (by rw [hk]; exact fl_Mo_77) hKo kk
theorem p_Mo_77 {o x : Nat} (hd : decode k.2.1 pc = .ok (.putfield 77, 3)) (hp : pc + 3 = pc') (hk : k.1.cls = "TracedBuildModel") (hi : k.1.name = "<init>") (hKo : tb_K M o = 9) (kk : tb_Wp E k d rc rs pc' L S (tb_sR M o 31 x) Q) : tb_Wp E k d rc rs pc L (.inr (.inl x) :: .inr (.inl o) :: S) M Q := tb_putF (C0 := n_Mo) (T := T_Mo) (N := 40) (ci := 8) (j := 31) hd hp rfl (by decide) in_Mo y_Mo ty_Mo nm_Mo (by decide) rfl (by rw [hk]; exact fl_Mo_77) rfl hk.symm hi hKo (by cases x <;> rfl) (by cases x <;> rfl) kk
theorem fl_Mo_80 : tb_I1 (Cond.fieldLink "TracedBuildModel" 80 (T_Mo 32).1 (T_Mo 32).2.1 (T_Mo 32).2.2.1) := tb_ix 829 (by decide +kernel) rfl
theorem g_Mo_80 {o : Nat} (hd : decode k.2.1 pc = .ok (.getfield 80, 3)) (hp : pc + 3 = pc') (hk : k.1.cls = "TracedBuildModel") (hKo : tb_K M o = 9) (kk : tb_Wp E k d rc rs pc' L (.inr (.inl (tb_R M o 32)) :: S) M Q) : tb_Wp E k d rc rs pc L (.inr (.inl o) :: S) M Q := tb_getR (C0 := n_Mo) (T := T_Mo) (N := 40) (ci := 8) (j := 32) hd hp rfl (by decide) in_Mo (by decide) rfl (by rw [hk]; exact fl_Mo_80) hKo kk
theorem p_Mo_80 {o x : Nat} (hd : decode k.2.1 pc = .ok (.putfield 80, 3)) (hp : pc + 3 = pc') (hk : k.1.cls = "TracedBuildModel") (hi : k.1.name = "<init>") (hKo : tb_K M o = 9) (kk : tb_Wp E k d rc rs pc' L S (tb_sR M o 32 x) Q) : tb_Wp E k d rc rs pc L (.inr (.inl x) :: .inr (.inl o) :: S) M Q := tb_putF (C0 := n_Mo) (T := T_Mo) (N := 40) (ci := 8) (j := 32) hd hp rfl (by decide) in_Mo y_Mo ty_Mo nm_Mo (by decide) rfl (by rw [hk]; exact fl_Mo_80) rfl hk.symm hi hKo (by cases x <;> rfl) (by cases x <;> rfl) kk
theorem fl_Mo_83 : tb_I1 (Cond.fieldLink "TracedBuildModel" 83 (T_Mo 33).1 (T_Mo 33).2.1 (T_Mo 33).2.2.1) := tb_ix 830 (by decide +kernel) rfl
theorem g_Mo_83 {o : Nat} (hd : decode k.2.1 pc = .ok (.getfield 83, 3)) (hp : pc + 3 = pc') (hk : k.1.cls = "TracedBuildModel") (hKo : tb_K M o = 9) (kk : tb_Wp E k d rc rs pc' L (.inr (.inl (tb_R M o 33)) :: S) M Q) : tb_Wp E k d rc rs pc L (.inr (.inl o) :: S) M Q := tb_getR (C0 := n_Mo) (T := T_Mo) (N := 40) (ci := 8) (j := 33) hd hp rfl (by decide) in_Mo (by decide) rfl (by rw [hk]; exact fl_Mo_83) hKo kk
theorem p_Mo_83 {o x : Nat} (hd : decode k.2.1 pc = .ok (.putfield 83, 3)) (hp : pc + 3 = pc') (hk : k.1.cls = "TracedBuildModel") (hi : k.1.name = "<init>") (hKo : tb_K M o = 9) (kk : tb_Wp E k d rc rs pc' L S (tb_sR M o 33 x) Q) : tb_Wp E k d rc rs pc L (.inr (.inl x) :: .inr (.inl o) :: S) M Q := tb_putF (C0 := n_Mo) (T := T_Mo) (N := 40) (ci := 8) (j := 33) hd hp rfl (by decide) in_Mo y_Mo ty_Mo nm_Mo (by decide) rfl (by rw [hk]; exact fl_Mo_83) rfl hk.symm hi hKo (by cases x <;> rfl) (by cases x <;> rfl) kk
theorem fl_Mo_86 : tb_I1 (Cond.fieldLink "TracedBuildModel" 86 (T_Mo 34).1 (T_Mo 34).2.1 (T_Mo 34).2.2.1) := tb_ix 831 (by decide +kernel) rfl
theorem g_Mo_86 {o : Nat} (hd : decode k.2.1 pc = .ok (.getfield 86, 3)) (hp : pc + 3 = pc') (hk : k.1.cls = "TracedBuildModel") (hKo : tb_K M o = 9) (kk : tb_Wp E k d rc rs pc' L (.inr (.inl (tb_R M o 34)) :: S) M Q) : tb_Wp E k d rc rs pc L (.inr (.inl o) :: S) M Q := tb_getR (C0 := n_Mo) (T := T_Mo) (N := 40) (ci := 8) (j := 34) hd hp rfl (by decide) in_Mo (by decide) rfl (by rw [hk]; exact fl_Mo_86) hKo kk
theorem p_Mo_86 {o x : Nat} (hd : decode k.2.1 pc = .ok (.putfield 86, 3)) (hp : pc + 3 = pc') (hk : k.1.cls = "TracedBuildModel") (hi : k.1.name = "<init>") (hKo : tb_K M o = 9) (kk : tb_Wp E k d rc rs pc' L S (tb_sR M o 34 x) Q) : tb_Wp E k d rc rs pc L (.inr (.inl x) :: .inr (.inl o) :: S) M Q := tb_putF (C0 := n_Mo) (T := T_Mo) (N := 40) (ci := 8) (j := 34) hd hp rfl (by decide) in_Mo y_Mo ty_Mo nm_Mo (by decide) rfl (by rw [hk]; exact fl_Mo_86) rfl hk.symm hi hKo (by cases x <;> rfl) (by cases x <;> rfl) kk
theorem fl_Mo_89 : tb_I1 (Cond.fieldLink "TracedBuildModel" 89 (T_Mo 0).1 (T_Mo 0).2.1 (T_Mo 0).2.2.1) := tb_ix 797 (by decide +kernel) rfl
theorem g_Mo_89 {o : Nat} (hd : decode k.2.1 pc = .ok (.getfield 89, 3)) (hp : pc + 3 = pc') (hk : k.1.cls = "TracedBuildModel") (hKo : tb_K M o = 9) (kk : tb_Wp E k d rc rs pc' L (.inl (tb_I M o 0) :: S) M Q) : tb_Wp E k d rc rs pc L (.inr (.inl o) :: S) M Q := tb_getI (C0 := n_Mo) (T := T_Mo) (N := 40) (ci := 8) (j := 0) hd hp rfl (by decide) in_Mo (by decide) rfl (by rw [hk]; exact fl_Mo_89) hKo kk
theorem p_Mo_89 {o : Nat} {x : Int32} (hd : decode k.2.1 pc = .ok (.putfield 89, 3)) (hp : pc + 3 = pc') (hk : k.1.cls = "TracedBuildModel") (hKo : tb_K M o = 9) (kk : tb_Wp E k d rc rs pc' L S (tb_sI M o 0 x) Q) : tb_Wp E k d rc rs pc L (.inl x :: .inr (.inl o) :: S) M Q := tb_putI (C0 := n_Mo) (T := T_Mo) (N := 40) (ci := 8) (j := 0) hd hp rfl (by decide) in_Mo y_Mo ty_Mo nm_Mo (by decide) rfl (by rw [hk]; exact fl_Mo_89) rfl hKo rfl rfl kk
theorem fl_Mo_93 : tb_I1 (Cond.fieldLink "TracedBuildModel" 93 (T_Mo 5).1 (T_Mo 5).2.1 (T_Mo 5).2.2.1) := tb_ix 802 (by decide +kernel) rfl
theorem g_Mo_93 {o : Nat} (hd : decode k.2.1 pc = .ok (.getfield 93, 3)) (hp : pc + 3 = pc') (hk : k.1.cls = "TracedBuildModel") (hKo : tb_K M o = 9) (kk : tb_Wp E k d rc rs pc' L (.inl (tb_I M o 5) :: S) M Q) : tb_Wp E k d rc rs pc L (.inr (.inl o) :: S) M Q := tb_getI (C0 := n_Mo) (T := T_Mo) (N := 40) (ci := 8) (j := 5) hd hp rfl (by decide) in_Mo (by decide) rfl (by rw [hk]; exact fl_Mo_93) hKo kk
theorem p_Mo_93 {o : Nat} {x : Int32} (hd : decode k.2.1 pc = .ok (.putfield 93, 3)) (hp : pc + 3 = pc') (hk : k.1.cls = "TracedBuildModel") (hKo : tb_K M o = 9) (kk : tb_Wp E k d rc rs pc' L S (tb_sI M o 5 x) Q) : tb_Wp E k d rc rs pc L (.inl x :: .inr (.inl o) :: S) M Q := tb_putI (C0 := n_Mo) (T := T_Mo) (N := 40) (ci := 8) (j := 5) hd hp rfl (by decide) in_Mo y_Mo ty_Mo nm_Mo (by decide) rfl (by rw [hk]; exact fl_Mo_93) rfl hKo rfl rfl kk
theorem fl_Mo_114 : tb_I1 (Cond.fieldLink "TracedBuildModel" 114 (T_Mo 26).1 (T_Mo 26).2.1 (T_Mo 26).2.2.1) := tb_ix 823 (by decide +kernel) rfl
theorem g_Mo_114 {o : Nat} (hd : decode k.2.1 pc = .ok (.getfield 114, 3)) (hp : pc + 3 = pc') (hk : k.1.cls = "TracedBuildModel") (hKo : tb_K M o = 9) (kk : tb_Wp E k d rc rs pc' L (.inl (tb_I M o 26) :: S) M Q) : tb_Wp E k d rc rs pc L (.inr (.inl o) :: S) M Q := tb_getI (C0 := n_Mo) (T := T_Mo) (N := 40) (ci := 8) (j := 26) hd hp rfl (by decide) in_Mo (by decide) rfl (by rw [hk]; exact fl_Mo_114) hKo kk
theorem p_Mo_114 {o : Nat} {x : Int32} (hd : decode k.2.1 pc = .ok (.putfield 114, 3)) (hp : pc + 3 = pc') (hk : k.1.cls = "TracedBuildModel") (hKo : tb_K M o = 9) (hx : x = 0 ∨ x = 1) (kk : tb_Wp E k d rc rs pc' L S (tb_sI M o 26 x) Q) : tb_Wp E k d rc rs pc L (.inl x :: .inr (.inl o) :: S) M Q := tb_putI (C0 := n_Mo) (T := T_Mo) (N := 40) (ci := 8) (j := 26) hd hp rfl (by decide) in_Mo y_Mo ty_Mo nm_Mo (by decide) rfl (by rw [hk]; exact fl_Mo_114) rfl hKo (by rcases hx with rfl | rfl <;> rfl) (by rcases hx with rfl | rfl <;> rfl) kk
theorem fl_Mo_125 : tb_I1 (Cond.fieldLink "TracedBuildModel" 125 (T_Mo 7).1 (T_Mo 7).2.1 (T_Mo 7).2.2.1) := tb_ix 804 (by decide +kernel) rfl
theorem g_Mo_125 {o : Nat} (hd : decode k.2.1 pc = .ok (.getfield 125, 3)) (hp : pc + 3 = pc') (hk : k.1.cls = "TracedBuildModel") (hKo : tb_K M o = 9) (kk : tb_Wp E k d rc rs pc' L (.inl (tb_I M o 7) :: S) M Q) : tb_Wp E k d rc rs pc L (.inr (.inl o) :: S) M Q := tb_getI (C0 := n_Mo) (T := T_Mo) (N := 40) (ci := 8) (j := 7) hd hp rfl (by decide) in_Mo (by decide) rfl (by rw [hk]; exact fl_Mo_125) hKo kk
theorem p_Mo_125 {o : Nat} {x : Int32} (hd : decode k.2.1 pc = .ok (.putfield 125, 3)) (hp : pc + 3 = pc') (hk : k.1.cls = "TracedBuildModel") (hKo : tb_K M o = 9) (kk : tb_Wp E k d rc rs pc' L S (tb_sI M o 7 x) Q) : tb_Wp E k d rc rs pc L (.inl x :: .inr (.inl o) :: S) M Q := tb_putI (C0 := n_Mo) (T := T_Mo) (N := 40) (ci := 8) (j := 7) hd hp rfl (by decide) in_Mo y_Mo ty_Mo nm_Mo (by decide) rfl (by rw [hk]; exact fl_Mo_125) rfl hKo rfl rfl kk
theorem fl_Mo_132 : tb_I1 (Cond.fieldLink "TracedBuildModel" 132 (T_Mo 24).1 (T_Mo 24).2.1 (T_Mo 24).2.2.1) := tb_ix 821 (by decide +kernel) rfl
theorem g_Mo_132 {o : Nat} (hd : decode k.2.1 pc = .ok (.getfield 132, 3)) (hp : pc + 3 = pc') (hk : k.1.cls = "TracedBuildModel") (hKo : tb_K M o = 9) (kk : tb_Wp E k d rc rs pc' L (.inl (tb_I M o 24) :: S) M Q) : tb_Wp E k d rc rs pc L (.inr (.inl o) :: S) M Q := tb_getI (C0 := n_Mo) (T := T_Mo) (N := 40) (ci := 8) (j := 24) hd hp rfl (by decide) in_Mo (by decide) rfl (by rw [hk]; exact fl_Mo_132) hKo kk
theorem p_Mo_132 {o : Nat} {x : Int32} (hd : decode k.2.1 pc = .ok (.putfield 132, 3)) (hp : pc + 3 = pc') (hk : k.1.cls = "TracedBuildModel") (hKo : tb_K M o = 9) (kk : tb_Wp E k d rc rs pc' L S (tb_sI M o 24 x) Q) : tb_Wp E k d rc rs pc L (.inl x :: .inr (.inl o) :: S) M Q := tb_putI (C0 := n_Mo) (T := T_Mo) (N := 40) (ci := 8) (j := 24) hd hp rfl (by decide) in_Mo y_Mo ty_Mo nm_Mo (by decide) rfl (by rw [hk]; exact fl_Mo_132) rfl hKo rfl rfl kk
theorem fl_Mo_135 : tb_I1 (Cond.fieldLink "TracedBuildModel" 135 (T_Mo 21).1 (T_Mo 21).2.1 (T_Mo 21).2.2.1) := tb_ix 818 (by decide +kernel) rfl
theorem g_Mo_135 {o : Nat} (hd : decode k.2.1 pc = .ok (.getfield 135, 3)) (hp : pc + 3 = pc') (hk : k.1.cls = "TracedBuildModel") (hKo : tb_K M o = 9) (kk : tb_Wp E k d rc rs pc' L (.inl (tb_I M o 21) :: S) M Q) : tb_Wp E k d rc rs pc L (.inr (.inl o) :: S) M Q := tb_getI (C0 := n_Mo) (T := T_Mo) (N := 40) (ci := 8) (j := 21) hd hp rfl (by decide) in_Mo (by decide) rfl (by rw [hk]; exact fl_Mo_135) hKo kk
theorem p_Mo_135 {o : Nat} {x : Int32} (hd : decode k.2.1 pc = .ok (.putfield 135, 3)) (hp : pc + 3 = pc') (hk : k.1.cls = "TracedBuildModel") (hKo : tb_K M o = 9) (kk : tb_Wp E k d rc rs pc' L S (tb_sI M o 21 x) Q) : tb_Wp E k d rc rs pc L (.inl x :: .inr (.inl o) :: S) M Q := tb_putI (C0 := n_Mo) (T := T_Mo) (N := 40) (ci := 8) (j := 21) hd hp rfl (by decide) in_Mo y_Mo ty_Mo nm_Mo (by decide) rfl (by rw [hk]; exact fl_Mo_135) rfl hKo rfl rfl kk
theorem fl_Mo_144 : tb_I1 (Cond.fieldLink "TracedBuildModel" 144 (T_Mo 22).1 (T_Mo 22).2.1 (T_Mo 22).2.2.1) := tb_ix 819 (by decide +kernel) rfl
theorem g_Mo_144 {o : Nat} (hd : decode k.2.1 pc = .ok (.getfield 144, 3)) (hp : pc + 3 = pc') (hk : k.1.cls = "TracedBuildModel") (hKo : tb_K M o = 9) (kk : tb_Wp E k d rc rs pc' L (.inl (tb_I M o 22) :: S) M Q) : tb_Wp E k d rc rs pc L (.inr (.inl o) :: S) M Q := tb_getI (C0 := n_Mo) (T := T_Mo) (N := 40) (ci := 8) (j := 22) hd hp rfl (by decide) in_Mo (by decide) rfl (by rw [hk]; exact fl_Mo_144) hKo kk
theorem p_Mo_144 {o : Nat} {x : Int32} (hd : decode k.2.1 pc = .ok (.putfield 144, 3)) (hp : pc + 3 = pc') (hk : k.1.cls = "TracedBuildModel") (hKo : tb_K M o = 9) (kk : tb_Wp E k d rc rs pc' L S (tb_sI M o 22 x) Q) : tb_Wp E k d rc rs pc L (.inl x :: .inr (.inl o) :: S) M Q := tb_putI (C0 := n_Mo) (T := T_Mo) (N := 40) (ci := 8) (j := 22) hd hp rfl (by decide) in_Mo y_Mo ty_Mo nm_Mo (by decide) rfl (by rw [hk]; exact fl_Mo_144) rfl hKo rfl rfl kk
theorem fl_Mo_147 : tb_I1 (Cond.fieldLink "TracedBuildModel" 147 (T_Mo 23).1 (T_Mo 23).2.1 (T_Mo 23).2.2.1) := tb_ix 820 (by decide +kernel) rfl
theorem g_Mo_147 {o : Nat} (hd : decode k.2.1 pc = .ok (.getfield 147, 3)) (hp : pc + 3 = pc') (hk : k.1.cls = "TracedBuildModel") (hKo : tb_K M o = 9) (kk : tb_Wp E k d rc rs pc' L (.inl (tb_I M o 23) :: S) M Q) : tb_Wp E k d rc rs pc L (.inr (.inl o) :: S) M Q := tb_getI (C0 := n_Mo) (T := T_Mo) (N := 40) (ci := 8) (j := 23) hd hp rfl (by decide) in_Mo (by decide) rfl (by rw [hk]; exact fl_Mo_147) hKo kk
theorem p_Mo_147 {o : Nat} {x : Int32} (hd : decode k.2.1 pc = .ok (.putfield 147, 3)) (hp : pc + 3 = pc') (hk : k.1.cls = "TracedBuildModel") (hKo : tb_K M o = 9) (kk : tb_Wp E k d rc rs pc' L S (tb_sI M o 23 x) Q) : tb_Wp E k d rc rs pc L (.inl x :: .inr (.inl o) :: S) M Q := tb_putI (C0 := n_Mo) (T := T_Mo) (N := 40) (ci := 8) (j := 23) hd hp rfl (by decide) in_Mo y_Mo ty_Mo nm_Mo (by decide) rfl (by rw [hk]; exact fl_Mo_147) rfl hKo rfl rfl kk
theorem fl_Mo_176 : tb_I1 (Cond.fieldLink "TracedBuildModel" 176 (T_Mo 10).1 (T_Mo 10).2.1 (T_Mo 10).2.2.1) := tb_ix 807 (by decide +kernel) rfl
theorem g_Mo_176 {o : Nat} (hd : decode k.2.1 pc = .ok (.getfield 176, 3)) (hp : pc + 3 = pc') (hk : k.1.cls = "TracedBuildModel") (hKo : tb_K M o = 9) (kk : tb_Wp E k d rc rs pc' L (.inl (tb_I M o 10) :: S) M Q) : tb_Wp E k d rc rs pc L (.inr (.inl o) :: S) M Q := tb_getI (C0 := n_Mo) (T := T_Mo) (N := 40) (ci := 8) (j := 10) hd hp rfl (by decide) in_Mo (by decide) rfl (by rw [hk]; exact fl_Mo_176) hKo kk
theorem p_Mo_176 {o : Nat} {x : Int32} (hd : decode k.2.1 pc = .ok (.putfield 176, 3)) (hp : pc + 3 = pc') (hk : k.1.cls = "TracedBuildModel") (hKo : tb_K M o = 9) (kk : tb_Wp E k d rc rs pc' L S (tb_sI M o 10 x) Q) : tb_Wp E k d rc rs pc L (.inl x :: .inr (.inl o) :: S) M Q := tb_putI (C0 := n_Mo) (T := T_Mo) (N := 40) (ci := 8) (j := 10) hd hp rfl (by decide) in_Mo y_Mo ty_Mo nm_Mo (by decide) rfl (by rw [hk]; exact fl_Mo_176) rfl hKo rfl rfl kk
theorem fl_Mo_219 : tb_I1 (Cond.fieldLink "TracedBuildModel" 219 (T_Mo 35).1 (T_Mo 35).2.1 (T_Mo 35).2.2.1) := tb_ix 832 (by decide +kernel) rfl
theorem g_Mo_219 {o : Nat} (hd : decode k.2.1 pc = .ok (.getfield 219, 3)) (hp : pc + 3 = pc') (hk : k.1.cls = "TracedBuildModel") (hKo : tb_K M o = 9) (kk : tb_Wp E k d rc rs pc' L (.inl (tb_I M o 35) :: S) M Q) : tb_Wp E k d rc rs pc L (.inr (.inl o) :: S) M Q := tb_getI (C0 := n_Mo) (T := T_Mo) (N := 40) (ci := 8) (j := 35) hd hp rfl (by decide) in_Mo (by decide) rfl (by rw [hk]; exact fl_Mo_219) hKo kk
theorem p_Mo_219 {o : Nat} {x : Int32} (hd : decode k.2.1 pc = .ok (.putfield 219, 3)) (hp : pc + 3 = pc') (hk : k.1.cls = "TracedBuildModel") (hKo : tb_K M o = 9) (kk : tb_Wp E k d rc rs pc' L S (tb_sI M o 35 x) Q) : tb_Wp E k d rc rs pc L (.inl x :: .inr (.inl o) :: S) M Q := tb_putI (C0 := n_Mo) (T := T_Mo) (N := 40) (ci := 8) (j := 35) hd hp rfl (by decide) in_Mo y_Mo ty_Mo nm_Mo (by decide) rfl (by rw [hk]; exact fl_Mo_219) rfl hKo rfl rfl kk
theorem fl_Mo_222 : tb_I1 (Cond.fieldLink "TracedBuildModel" 222 (T_Mo 36).1 (T_Mo 36).2.1 (T_Mo 36).2.2.1) := tb_ix 833 (by decide +kernel) rfl
theorem g_Mo_222 {o : Nat} (hd : decode k.2.1 pc = .ok (.getfield 222, 3)) (hp : pc + 3 = pc') (hk : k.1.cls = "TracedBuildModel") (hKo : tb_K M o = 9) (kk : tb_Wp E k d rc rs pc' L (.inl (tb_I M o 36) :: S) M Q) : tb_Wp E k d rc rs pc L (.inr (.inl o) :: S) M Q := tb_getI (C0 := n_Mo) (T := T_Mo) (N := 40) (ci := 8) (j := 36) hd hp rfl (by decide) in_Mo (by decide) rfl (by rw [hk]; exact fl_Mo_222) hKo kk
theorem p_Mo_222 {o : Nat} {x : Int32} (hd : decode k.2.1 pc = .ok (.putfield 222, 3)) (hp : pc + 3 = pc') (hk : k.1.cls = "TracedBuildModel") (hKo : tb_K M o = 9) (kk : tb_Wp E k d rc rs pc' L S (tb_sI M o 36 x) Q) : tb_Wp E k d rc rs pc L (.inl x :: .inr (.inl o) :: S) M Q := tb_putI (C0 := n_Mo) (T := T_Mo) (N := 40) (ci := 8) (j := 36) hd hp rfl (by decide) in_Mo y_Mo ty_Mo nm_Mo (by decide) rfl (by rw [hk]; exact fl_Mo_222) rfl hKo rfl rfl kk
theorem fl_Mo_225 : tb_I1 (Cond.fieldLink "TracedBuildModel" 225 (T_Mo 37).1 (T_Mo 37).2.1 (T_Mo 37).2.2.1) := tb_ix 834 (by decide +kernel) rfl
theorem g_Mo_225 {o : Nat} (hd : decode k.2.1 pc = .ok (.getfield 225, 3)) (hp : pc + 3 = pc') (hk : k.1.cls = "TracedBuildModel") (hKo : tb_K M o = 9) (kk : tb_Wp E k d rc rs pc' L (.inl (tb_I M o 37) :: S) M Q) : tb_Wp E k d rc rs pc L (.inr (.inl o) :: S) M Q := tb_getI (C0 := n_Mo) (T := T_Mo) (N := 40) (ci := 8) (j := 37) hd hp rfl (by decide) in_Mo (by decide) rfl (by rw [hk]; exact fl_Mo_225) hKo kk
theorem p_Mo_225 {o : Nat} {x : Int32} (hd : decode k.2.1 pc = .ok (.putfield 225, 3)) (hp : pc + 3 = pc') (hk : k.1.cls = "TracedBuildModel") (hKo : tb_K M o = 9) (kk : tb_Wp E k d rc rs pc' L S (tb_sI M o 37 x) Q) : tb_Wp E k d rc rs pc L (.inl x :: .inr (.inl o) :: S) M Q := tb_putI (C0 := n_Mo) (T := T_Mo) (N := 40) (ci := 8) (j := 37) hd hp rfl (by decide) in_Mo y_Mo ty_Mo nm_Mo (by decide) rfl (by rw [hk]; exact fl_Mo_225) rfl hKo rfl rfl kk
theorem fl_Mo_228 : tb_I1 (Cond.fieldLink "TracedBuildModel" 228 (T_Mo 38).1 (T_Mo 38).2.1 (T_Mo 38).2.2.1) := tb_ix 835 (by decide +kernel) rfl
theorem g_Mo_228 {o : Nat} (hd : decode k.2.1 pc = .ok (.getfield 228, 3)) (hp : pc + 3 = pc') (hk : k.1.cls = "TracedBuildModel") (hKo : tb_K M o = 9) (kk : tb_Wp E k d rc rs pc' L (.inl (tb_I M o 38) :: S) M Q) : tb_Wp E k d rc rs pc L (.inr (.inl o) :: S) M Q := tb_getI (C0 := n_Mo) (T := T_Mo) (N := 40) (ci := 8) (j := 38) hd hp rfl (by decide) in_Mo (by decide) rfl (by rw [hk]; exact fl_Mo_228) hKo kk
theorem p_Mo_228 {o : Nat} {x : Int32} (hd : decode k.2.1 pc = .ok (.putfield 228, 3)) (hp : pc + 3 = pc') (hk : k.1.cls = "TracedBuildModel") (hKo : tb_K M o = 9) (kk : tb_Wp E k d rc rs pc' L S (tb_sI M o 38 x) Q) : tb_Wp E k d rc rs pc L (.inl x :: .inr (.inl o) :: S) M Q := tb_putI (C0 := n_Mo) (T := T_Mo) (N := 40) (ci := 8) (j := 38) hd hp rfl (by decide) in_Mo y_Mo ty_Mo nm_Mo (by decide) rfl (by rw [hk]; exact fl_Mo_228) rfl hKo rfl rfl kk
theorem fl_Mo_254 : tb_I1 (Cond.fieldLink "TracedBuildModel" 254 (T_Mo 39).1 (T_Mo 39).2.1 (T_Mo 39).2.2.1) := tb_ix 836 (by decide +kernel) rfl
theorem g_Mo_254 {o : Nat} (hd : decode k.2.1 pc = .ok (.getfield 254, 3)) (hp : pc + 3 = pc') (hk : k.1.cls = "TracedBuildModel") (hKo : tb_K M o = 9) (kk : tb_Wp E k d rc rs pc' L (.inl (tb_I M o 39) :: S) M Q) : tb_Wp E k d rc rs pc L (.inr (.inl o) :: S) M Q := tb_getI (C0 := n_Mo) (T := T_Mo) (N := 40) (ci := 8) (j := 39) hd hp rfl (by decide) in_Mo (by decide) rfl (by rw [hk]; exact fl_Mo_254) hKo kk
theorem p_Mo_254 {o : Nat} {x : Int32} (hd : decode k.2.1 pc = .ok (.putfield 254, 3)) (hp : pc + 3 = pc') (hk : k.1.cls = "TracedBuildModel") (hKo : tb_K M o = 9) (kk : tb_Wp E k d rc rs pc' L S (tb_sI M o 39 x) Q) : tb_Wp E k d rc rs pc L (.inl x :: .inr (.inl o) :: S) M Q := tb_putI (C0 := n_Mo) (T := T_Mo) (N := 40) (ci := 8) (j := 39) hd hp rfl (by decide) in_Mo y_Mo ty_Mo nm_Mo (by decide) rfl (by rw [hk]; exact fl_Mo_254) rfl hKo rfl rfl kk
theorem fl_Cr_31 : Cond.fieldLinkNest "TracedBuild$Craft" 31 (T_Tr 1).1 (T_Tr 1).2.1 (T_Tr 1).2.2.1 "TracedBuild" ∈ tb_nest := by decide +kernel
theorem g_Cr_31 {o : Nat} (hd : decode k.2.1 pc = .ok (.getfield 31, 3)) (hp : pc + 3 = pc') (hk : k.1.cls = "TracedBuild$Craft") (hKo : tb_K M o = 7) (kk : tb_Wp E k d rc rs pc' L (.inr (.inl (tb_R M o 1)) :: S) M Q) : tb_Wp E k d rc rs pc L (.inr (.inl o) :: S) M Q := tb_getRN (C0 := n_Tr) (T := T_Tr) (N := 5) (ci := 6) (j := 1) hd hp rfl (by decide) in_Tr (by decide) rfl (by rw [hk]; exact fl_Cr_31) hKo kk
theorem fl_Cr_47 : Cond.fieldLinkNest "TracedBuild$Craft" 47 (T_Tr 0).1 (T_Tr 0).2.1 (T_Tr 0).2.2.1 "TracedBuild" ∈ tb_nest := by decide +kernel
theorem g_Cr_47 {o : Nat} (hd : decode k.2.1 pc = .ok (.getfield 47, 3)) (hp : pc + 3 = pc') (hk : k.1.cls = "TracedBuild$Craft") (hKo : tb_K M o = 7) (kk : tb_Wp E k d rc rs pc' L (.inr (.inl (tb_R M o 0)) :: S) M Q) : tb_Wp E k d rc rs pc L (.inr (.inl o) :: S) M Q := tb_getRN (C0 := n_Tr) (T := T_Tr) (N := 5) (ci := 6) (j := 0) hd hp rfl (by decide) in_Tr (by decide) rfl (by rw [hk]; exact fl_Cr_47) hKo kk
theorem fl_Cr_54 : Cond.fieldLinkNest "TracedBuild$Craft" 54 (T_Tr 4).1 (T_Tr 4).2.1 (T_Tr 4).2.2.1 "TracedBuild" ∈ tb_nest := by decide +kernel
theorem p_Cr_54 {o : Nat} {x : Int32} (hd : decode k.2.1 pc = .ok (.putfield 54, 3)) (hp : pc + 3 = pc') (hk : k.1.cls = "TracedBuild$Craft") (hKo : tb_K M o = 7) (kk : tb_Wp E k d rc rs pc' L S (tb_sI M o 4 x) Q) : tb_Wp E k d rc rs pc L (.inl x :: .inr (.inl o) :: S) M Q := tb_putIN (C0 := n_Tr) (T := T_Tr) (N := 5) (ci := 6) (j := 4) hd hp rfl (by decide) in_Tr y_Tr ty_Tr nm_Tr (by decide) rfl (by rw [hk]; exact fl_Cr_54) rfl hKo rfl rfl kk
theorem fl_Cr_91 : Cond.fieldLinkNest "TracedBuild$Craft" 91 (T_Tr 2).1 (T_Tr 2).2.1 (T_Tr 2).2.2.1 "TracedBuild" ∈ tb_nest := by decide +kernel
theorem g_Cr_91 {o : Nat} (hd : decode k.2.1 pc = .ok (.getfield 91, 3)) (hp : pc + 3 = pc') (hk : k.1.cls = "TracedBuild$Craft") (hKo : tb_K M o = 7) (kk : tb_Wp E k d rc rs pc' L (.inl (tb_I M o 2) :: S) M Q) : tb_Wp E k d rc rs pc L (.inr (.inl o) :: S) M Q := tb_getIN (C0 := n_Tr) (T := T_Tr) (N := 5) (ci := 6) (j := 2) hd hp rfl (by decide) in_Tr (by decide) rfl (by rw [hk]; exact fl_Cr_91) hKo kk
theorem p_Cr_91 {o : Nat} {x : Int32} (hd : decode k.2.1 pc = .ok (.putfield 91, 3)) (hp : pc + 3 = pc') (hk : k.1.cls = "TracedBuild$Craft") (hKo : tb_K M o = 7) (kk : tb_Wp E k d rc rs pc' L S (tb_sI M o 2 x) Q) : tb_Wp E k d rc rs pc L (.inl x :: .inr (.inl o) :: S) M Q := tb_putIN (C0 := n_Tr) (T := T_Tr) (N := 5) (ci := 6) (j := 2) hd hp rfl (by decide) in_Tr y_Tr ty_Tr nm_Tr (by decide) rfl (by rw [hk]; exact fl_Cr_91) rfl hKo rfl rfl kk
theorem fl_Cr_103 : Cond.fieldLinkNest "TracedBuild$Craft" 103 (T_Tr 3).1 (T_Tr 3).2.1 (T_Tr 3).2.2.1 "TracedBuild" ∈ tb_nest := by decide +kernel
theorem g_Cr_103 {o : Nat} (hd : decode k.2.1 pc = .ok (.getfield 103, 3)) (hp : pc + 3 = pc') (hk : k.1.cls = "TracedBuild$Craft") (hKo : tb_K M o = 7) (kk : tb_Wp E k d rc rs pc' L (.inl (tb_I M o 3) :: S) M Q) : tb_Wp E k d rc rs pc L (.inr (.inl o) :: S) M Q := tb_getIN (C0 := n_Tr) (T := T_Tr) (N := 5) (ci := 6) (j := 3) hd hp rfl (by decide) in_Tr (by decide) rfl (by rw [hk]; exact fl_Cr_103) hKo kk
theorem p_Cr_103 {o : Nat} {x : Int32} (hd : decode k.2.1 pc = .ok (.putfield 103, 3)) (hp : pc + 3 = pc') (hk : k.1.cls = "TracedBuild$Craft") (hKo : tb_K M o = 7) (kk : tb_Wp E k d rc rs pc' L S (tb_sI M o 3 x) Q) : tb_Wp E k d rc rs pc L (.inl x :: .inr (.inl o) :: S) M Q := tb_putIN (C0 := n_Tr) (T := T_Tr) (N := 5) (ci := 6) (j := 3) hd hp rfl (by decide) in_Tr y_Tr ty_Tr nm_Tr (by decide) rfl (by rw [hk]; exact fl_Cr_103) rfl hKo rfl rfl kk
end Fields
end
section
/-! What calls rest on: laid by program. -/
theorem sb_De_init : tb_SB m_De_init 0 := ⟨tb_ix 187 (by decide +kernel) rfl, tb_ix 65 (by decide +kernel) rfl, ⟨by decide +kernel, by decide +kernel⟩, by decide +kernel, by decide, rfl⟩
theorem sb_De_forget : tb_SB m_De_forget 0 := ⟨tb_ix 597 (by decide +kernel) rfl, tb_ix 65 (by decide +kernel) rfl, ⟨by decide +kernel, by decide +kernel⟩, by decide +kernel, by decide, rfl⟩
theorem sb_De_isDone : tb_SB m_De_isDone 0 := ⟨tb_ix 602 (by decide +kernel) rfl, tb_ix 65 (by decide +kernel) rfl, ⟨by decide +kernel, by decide +kernel⟩, by decide +kernel, by decide, rfl⟩
theorem sb_De_keepOutcome : tb_SB m_De_keepOutcome 3 := ⟨tb_ix 716 (by decide +kernel) rfl, tb_ix 65 (by decide +kernel) rfl, ⟨by decide +kernel, by decide +kernel⟩, by decide +kernel, by decide, rfl⟩
theorem sb_De_keepTraced : tb_SB m_De_keepTraced 2 := ⟨tb_ix 720 (by decide +kernel) rfl, tb_ix 65 (by decide +kernel) rfl, ⟨by decide +kernel, by decide +kernel⟩, by decide +kernel, by decide, rfl⟩
theorem sb_Lg_init : tb_SB m_Lg_init 0 := ⟨tb_ix 180 (by decide +kernel) rfl, tb_ix 64 (by decide +kernel) rfl, ⟨by decide +kernel, by decide +kernel⟩, by decide +kernel, by decide, rfl⟩
theorem sb_Lg_deed : tb_SB m_Lg_deed 1 := ⟨tb_ix 324 (by decide +kernel) rfl, tb_ix 64 (by decide +kernel) rfl, ⟨by decide +kernel, by decide +kernel⟩, by decide +kernel, by decide, rfl⟩
theorem sb_Lg_hazardPart : tb_SB m_Lg_hazardPart 1 := ⟨tb_ix 336 (by decide +kernel) rfl, tb_ix 64 (by decide +kernel) rfl, ⟨by decide +kernel, by decide +kernel⟩, by decide +kernel, by decide, rfl⟩
theorem sb_Lg_hasHazard : tb_SB m_Lg_hasHazard 0 := ⟨tb_ix 340 (by decide +kernel) rfl, tb_ix 64 (by decide +kernel) rfl, ⟨by decide +kernel, by decide +kernel⟩, by decide +kernel, by decide, rfl⟩
theorem sb_Lg_begin : tb_SB m_Lg_begin 1 := ⟨tb_ix 593 (by decide +kernel) rfl, tb_ix 64 (by decide +kernel) rfl, ⟨by decide +kernel, by decide +kernel⟩, by decide +kernel, by decide, rfl⟩
theorem sb_Lg_lookForHazard : tb_SB m_Lg_lookForHazard 1 := ⟨tb_ix 728 (by decide +kernel) rfl, tb_ix 64 (by decide +kernel) rfl, ⟨by decide +kernel, by decide +kernel⟩, by decide +kernel, by decide, rfl⟩
theorem sb_Lg_lookForHazard2 : tb_SB m_Lg_lookForHazard2 2 := ⟨tb_ix 732 (by decide +kernel) rfl, tb_ix 64 (by decide +kernel) rfl, ⟨by decide +kernel, by decide +kernel⟩, by decide +kernel, by decide, rfl⟩
theorem sb_Lg_lookBetween : tb_SB m_Lg_lookBetween 3 := ⟨tb_ix 737 (by decide +kernel) rfl, tb_ix 64 (by decide +kernel) rfl, ⟨by decide +kernel, by decide +kernel⟩, by decide +kernel, by decide, rfl⟩
theorem sb_Lg_filesInTheWay : tb_SB m_Lg_filesInTheWay 3 := ⟨tb_ix 741 (by decide +kernel) rfl, tb_ix 64 (by decide +kernel) rfl, ⟨by decide +kernel, by decide +kernel⟩, by decide +kernel, by decide, rfl⟩
theorem sb_Lg_isSpeculative : tb_SB m_Lg_isSpeculative 0 := ⟨tb_ix 764 (by decide +kernel) rfl, tb_ix 64 (by decide +kernel) rfl, ⟨by decide +kernel, by decide +kernel⟩, by decide +kernel, by decide, rfl⟩
theorem sb_Sc_init : tb_SB m_Sc_init 0 := ⟨tb_ix 101 (by decide +kernel) rfl, tb_ix 60 (by decide +kernel) rfl, ⟨by decide +kernel, by decide +kernel⟩, by decide +kernel, by decide, rfl⟩
theorem sb_Sc_length : tb_SB m_Sc_length 0 := ⟨tb_ix 280 (by decide +kernel) rfl, tb_ix 60 (by decide +kernel) rfl, ⟨by decide +kernel, by decide +kernel⟩, by decide +kernel, by decide, rfl⟩
theorem sb_Sc_has : tb_SB m_Sc_has 1 := ⟨tb_ix 320 (by decide +kernel) rfl, tb_ix 60 (by decide +kernel) rfl, ⟨by decide +kernel, by decide +kernel⟩, by decide +kernel, by decide, rfl⟩
theorem sb_Sc_isFull : tb_SB m_Sc_isFull 0 := ⟨tb_ix 500 (by decide +kernel) rfl, tb_ix 60 (by decide +kernel) rfl, ⟨by decide +kernel, by decide +kernel⟩, by decide +kernel, by decide, rfl⟩
theorem sb_Sc_append : tb_SB m_Sc_append 1 := ⟨tb_ix 519 (by decide +kernel) rfl, tb_ix 60 (by decide +kernel) rfl, ⟨by decide +kernel, by decide +kernel⟩, by decide +kernel, by decide, rfl⟩
theorem sb_Sc_at : tb_SB m_Sc_at 1 := ⟨tb_ix 558 (by decide +kernel) rfl, tb_ix 60 (by decide +kernel) rfl, ⟨by decide +kernel, by decide +kernel⟩, by decide +kernel, by decide, rfl⟩
theorem sb_Sc_takeOut : tb_SB m_Sc_takeOut 1 := ⟨tb_ix 570 (by decide +kernel) rfl, tb_ix 60 (by decide +kernel) rfl, ⟨by decide +kernel, by decide +kernel⟩, by decide +kernel, by decide, rfl⟩
theorem sb_Sh_init : tb_SB m_Sh_init 1 := ⟨tb_ix 117 (by decide +kernel) rfl, tb_ix 61 (by decide +kernel) rfl, ⟨by decide +kernel, by decide +kernel⟩, by decide +kernel, by decide, rfl⟩
theorem sb_Sh_append : tb_SB m_Sh_append 2 := ⟨tb_ix 291 (by decide +kernel) rfl, tb_ix 61 (by decide +kernel) rfl, ⟨by decide +kernel, by decide +kernel⟩, by decide +kernel, by decide, rfl⟩
theorem sb_Sh_length : tb_SB m_Sh_length 1 := ⟨tb_ix 295 (by decide +kernel) rfl, tb_ix 61 (by decide +kernel) rfl, ⟨by decide +kernel, by decide +kernel⟩, by decide +kernel, by decide, rfl⟩
theorem sb_Sh_isThere : tb_SB m_Sh_isThere 1 := ⟨tb_ix 304 (by decide +kernel) rfl, tb_ix 61 (by decide +kernel) rfl, ⟨by decide +kernel, by decide +kernel⟩, by decide +kernel, by decide, rfl⟩
theorem sb_Sh_takeAway : tb_SB m_Sh_takeAway 1 := ⟨tb_ix 308 (by decide +kernel) rfl, tb_ix 61 (by decide +kernel) rfl, ⟨by decide +kernel, by decide +kernel⟩, by decide +kernel, by decide, rfl⟩
theorem sb_Sh_becomeAll : tb_SB m_Sh_becomeAll 1 := ⟨tb_ix 581 (by decide +kernel) rfl, tb_ix 61 (by decide +kernel) rfl, ⟨by decide +kernel, by decide +kernel⟩, by decide +kernel, by decide, rfl⟩
theorem sb_Sh_become : tb_SB m_Sh_become 3 := ⟨tb_ix 585 (by decide +kernel) rfl, tb_ix 61 (by decide +kernel) rfl, ⟨by decide +kernel, by decide +kernel⟩, by decide +kernel, by decide, rfl⟩
theorem sb_Sh_thoseThere : tb_SB m_Sh_thoseThere 0 := ⟨tb_ix 610 (by decide +kernel) rfl, tb_ix 61 (by decide +kernel) rfl, ⟨by decide +kernel, by decide +kernel⟩, by decide +kernel, by decide, rfl⟩
theorem sb_Sh_isSame : tb_SB m_Sh_isSame 3 := ⟨tb_ix 631 (by decide +kernel) rfl, tb_ix 61 (by decide +kernel) rfl, ⟨by decide +kernel, by decide +kernel⟩, by decide +kernel, by decide, rfl⟩
theorem sb_Sh_at : tb_SB m_Sh_at 2 := ⟨tb_ix 671 (by decide +kernel) rfl, tb_ix 61 (by decide +kernel) rfl, ⟨by decide +kernel, by decide +kernel⟩, by decide +kernel, by decide, rfl⟩
theorem sb_Sh_makeEmpty : tb_SB m_Sh_makeEmpty 1 := ⟨tb_ix 678 (by decide +kernel) rfl, tb_ix 61 (by decide +kernel) rfl, ⟨by decide +kernel, by decide +kernel⟩, by decide +kernel, by decide, rfl⟩
theorem sb_Sh_sort : tb_SB m_Sh_sort 1 := ⟨tb_ix 692 (by decide +kernel) rfl, tb_ix 61 (by decide +kernel) rfl, ⟨by decide +kernel, by decide +kernel⟩, by decide +kernel, by decide, rfl⟩
theorem sb_St_init : tb_SB m_St_init 0 := ⟨tb_ix 132 (by decide +kernel) rfl, tb_ix 62 (by decide +kernel) rfl, ⟨by decide +kernel, by decide +kernel⟩, by decide +kernel, by decide, rfl⟩
theorem sb_St_length : tb_SB m_St_length 0 := ⟨tb_ix 352 (by decide +kernel) rfl, tb_ix 62 (by decide +kernel) rfl, ⟨by decide +kernel, by decide +kernel⟩, by decide +kernel, by decide, rfl⟩
theorem sb_St_cutTo : tb_SB m_St_cutTo 1 := ⟨tb_ix 360 (by decide +kernel) rfl, tb_ix 62 (by decide +kernel) rfl, ⟨by decide +kernel, by decide +kernel⟩, by decide +kernel, by decide, rfl⟩
theorem sb_St_keepLatest : tb_SB m_St_keepLatest 0 := ⟨tb_ix 368 (by decide +kernel) rfl, tb_ix 62 (by decide +kernel) rfl, ⟨by decide +kernel, by decide +kernel⟩, by decide +kernel, by decide, rfl⟩
theorem sb_St_isFollowedByItsLike : tb_SB m_St_isFollowedByItsLike 1 := ⟨tb_ix 372 (by decide +kernel) rfl, tb_ix 62 (by decide +kernel) rfl, ⟨by decide +kernel, by decide +kernel⟩, by decide +kernel, by decide, rfl⟩
theorem sb_St_swap : tb_SB m_St_swap 2 := ⟨tb_ix 384 (by decide +kernel) rfl, tb_ix 62 (by decide +kernel) rfl, ⟨by decide +kernel, by decide +kernel⟩, by decide +kernel, by decide, rfl⟩
theorem sb_St_fitting : tb_SB m_St_fitting 2 := ⟨tb_ix 614 (by decide +kernel) rfl, tb_ix 62 (by decide +kernel) rfl, ⟨by decide +kernel, by decide +kernel⟩, by decide +kernel, by decide, rfl⟩
theorem sb_St_reasonToRun : tb_SB m_St_reasonToRun 2 := ⟨tb_ix 635 (by decide +kernel) rfl, tb_ix 62 (by decide +kernel) rfl, ⟨by decide +kernel, by decide +kernel⟩, by decide +kernel, by decide, rfl⟩
theorem sb_St_latest : tb_SB m_St_latest 1 := ⟨tb_ix 639 (by decide +kernel) rfl, tb_ix 62 (by decide +kernel) rfl, ⟨by decide +kernel, by decide +kernel⟩, by decide +kernel, by decide, rfl⟩
theorem sb_St_append : tb_SB m_St_append 0 := ⟨tb_ix 648 (by decide +kernel) rfl, tb_ix 62 (by decide +kernel) rfl, ⟨by decide +kernel, by decide +kernel⟩, by decide +kernel, by decide, rfl⟩
theorem sb_St_at : tb_SB m_St_at 1 := ⟨tb_ix 775 (by decide +kernel) rfl, tb_ix 62 (by decide +kernel) rfl, ⟨by decide +kernel, by decide +kernel⟩, by decide +kernel, by decide, rfl⟩
theorem sb_Tx_init : tb_SB m_Tx_init 0 := ⟨tb_ix 87 (by decide +kernel) rfl, tb_ix 59 (by decide +kernel) rfl, ⟨by decide +kernel, by decide +kernel⟩, by decide +kernel, by decide, rfl⟩
theorem sb_Tx_append : tb_SB m_Tx_append 1 := ⟨tb_ix 272 (by decide +kernel) rfl, tb_ix 59 (by decide +kernel) rfl, ⟨by decide +kernel, by decide +kernel⟩, by decide +kernel, by decide, rfl⟩
theorem sb_Tx_isSame : tb_SB m_Tx_isSame 1 := ⟨tb_ix 380 (by decide +kernel) rfl, tb_ix 59 (by decide +kernel) rfl, ⟨by decide +kernel, by decide +kernel⟩, by decide +kernel, by decide, rfl⟩
theorem sb_Tx_isCommand : tb_SB m_Tx_isCommand 0 := ⟨tb_ix 405 (by decide +kernel) rfl, tb_ix 59 (by decide +kernel) rfl, ⟨by decide +kernel, by decide +kernel⟩, by decide +kernel, by decide, rfl⟩
theorem sb_Tx_at : tb_SB m_Tx_at 1 := ⟨tb_ix 409 (by decide +kernel) rfl, tb_ix 59 (by decide +kernel) rfl, ⟨by decide +kernel, by decide +kernel⟩, by decide +kernel, by decide, rfl⟩
theorem sb_Tx_fileAt : tb_SB m_Tx_fileAt 1 := ⟨tb_ix 413 (by decide +kernel) rfl, tb_ix 59 (by decide +kernel) rfl, ⟨by decide +kernel, by decide +kernel⟩, by decide +kernel, by decide, rfl⟩
theorem sb_Tx_isPlainCommand : tb_SB m_Tx_isPlainCommand 1 := ⟨tb_ix 417 (by decide +kernel) rfl, tb_ix 59 (by decide +kernel) rfl, ⟨by decide +kernel, by decide +kernel⟩, by decide +kernel, by decide, rfl⟩
theorem sb_Tx_isFilesToEnd : tb_SB m_Tx_isFilesToEnd 2 := ⟨tb_ix 421 (by decide +kernel) rfl, tb_ix 59 (by decide +kernel) rfl, ⟨by decide +kernel, by decide +kernel⟩, by decide +kernel, by decide, rfl⟩
theorem sb_Tx_digitAt : tb_SB m_Tx_digitAt 1 := ⟨tb_ix 425 (by decide +kernel) rfl, tb_ix 59 (by decide +kernel) rfl, ⟨by decide +kernel, by decide +kernel⟩, by decide +kernel, by decide, rfl⟩
theorem sb_Tx_isDigitsAndFile : tb_SB m_Tx_isDigitsAndFile 1 := ⟨tb_ix 429 (by decide +kernel) rfl, tb_ix 59 (by decide +kernel) rfl, ⟨by decide +kernel, by decide +kernel⟩, by decide +kernel, by decide, rfl⟩
theorem sb_Tx_clear : tb_SB m_Tx_clear 0 := ⟨tb_ix 433 (by decide +kernel) rfl, tb_ix 59 (by decide +kernel) rfl, ⟨by decide +kernel, by decide +kernel⟩, by decide +kernel, by decide, rfl⟩
theorem sb_Tx_become : tb_SB m_Tx_become 1 := ⟨tb_ix 523 (by decide +kernel) rfl, tb_ix 59 (by decide +kernel) rfl, ⟨by decide +kernel, by decide +kernel⟩, by decide +kernel, by decide, rfl⟩
theorem sb_Tx_length : tb_SB m_Tx_length 0 := ⟨tb_ix 661 (by decide +kernel) rfl, tb_ix 59 (by decide +kernel) rfl, ⟨by decide +kernel, by decide +kernel⟩, by decide +kernel, by decide, rfl⟩
theorem sb_Tr_init : tb_SB m_Tr_init 0 := ⟨tb_ix 139 (by decide +kernel) rfl, tb_ix 63 (by decide +kernel) rfl, ⟨by decide +kernel, by decide +kernel⟩, by decide +kernel, by decide, rfl⟩
theorem sb_Tr_isOf : tb_SB m_Tr_isOf 1 := ⟨tb_ix 376 (by decide +kernel) rfl, tb_ix 63 (by decide +kernel) rfl, ⟨by decide +kernel, by decide +kernel⟩, by decide +kernel, by decide, rfl⟩
theorem sb_Tr_fits : tb_SB m_Tr_fits 1 := ⟨tb_ix 618 (by decide +kernel) rfl, tb_ix 63 (by decide +kernel) rfl, ⟨by decide +kernel, by decide +kernel⟩, by decide +kernel, by decide, rfl⟩
theorem sb_Tr_askedAndChanged : tb_SB m_Tr_askedAndChanged 1 := ⟨tb_ix 622 (by decide +kernel) rfl, tb_ix 63 (by decide +kernel) rfl, ⟨by decide +kernel, by decide +kernel⟩, by decide +kernel, by decide, rfl⟩
theorem sb_Tr_readAndChanged : tb_SB m_Tr_readAndChanged 1 := ⟨tb_ix 627 (by decide +kernel) rfl, tb_ix 63 (by decide +kernel) rfl, ⟨by decide +kernel, by decide +kernel⟩, by decide +kernel, by decide, rfl⟩
theorem sb_Tr_begin : tb_SB m_Tr_begin 2 := ⟨tb_ix 655 (by decide +kernel) rfl, tb_ix 63 (by decide +kernel) rfl, ⟨by decide +kernel, by decide +kernel⟩, by decide +kernel, by decide, rfl⟩
theorem sb_Tr_putBack : tb_SB m_Tr_putBack 1 := ⟨tb_ix 711 (by decide +kernel) rfl, tb_ix 63 (by decide +kernel) rfl, ⟨by decide +kernel, by decide +kernel⟩, by decide +kernel, by decide, rfl⟩
theorem sb_Tr_written : tb_SB m_Tr_written 0 := ⟨tb_ix 724 (by decide +kernel) rfl, tb_ix 63 (by decide +kernel) rfl, ⟨by decide +kernel, by decide +kernel⟩, by decide +kernel, by decide, rfl⟩
theorem sb_Tr_isInTheWayOf : tb_SB m_Tr_isInTheWayOf 1 := ⟨tb_ix 755 (by decide +kernel) rfl, tb_ix 63 (by decide +kernel) rfl, ⟨by decide +kernel, by decide +kernel⟩, by decide +kernel, by decide, rfl⟩
theorem sb_Tr_touched : tb_SB m_Tr_touched 0 := ⟨tb_ix 760 (by decide +kernel) rfl, tb_ix 63 (by decide +kernel) rfl, ⟨by decide +kernel, by decide +kernel⟩, by decide +kernel, by decide, rfl⟩
theorem sb_Tr_part : tb_SB m_Tr_part 1 := ⟨tb_ix 779 (by decide +kernel) rfl, tb_ix 63 (by decide +kernel) rfl, ⟨by decide +kernel, by decide +kernel⟩, by decide +kernel, by decide, rfl⟩
theorem sb_TB_init : tb_SB m_TB_init 0 := ⟨tb_ix 79 (by decide +kernel) rfl, tb_ix 58 (by decide +kernel) rfl, ⟨by decide +kernel, by decide +kernel⟩, by decide +kernel, by decide, rfl⟩
theorem sb_TB_type : tb_SB m_TB_type 1 := ⟨tb_ix 268 (by decide +kernel) rfl, tb_ix 58 (by decide +kernel) rfl, ⟨by decide +kernel, by decide +kernel⟩, by decide +kernel, by decide, rfl⟩
theorem sb_TB_commands : tb_SB m_TB_commands 0 := ⟨tb_ix 276 (by decide +kernel) rfl, tb_ix 58 (by decide +kernel) rfl, ⟨by decide +kernel, by decide +kernel⟩, by decide +kernel, by decide, rfl⟩
theorem sb_TB_put : tb_SB m_TB_put 2 := ⟨tb_ix 284 (by decide +kernel) rfl, tb_ix 58 (by decide +kernel) rfl, ⟨by decide +kernel, by decide +kernel⟩, by decide +kernel, by decide, rfl⟩
theorem sb_TB_isFile : tb_SB m_TB_isFile 1 := ⟨tb_ix 287 (by decide +kernel) rfl, tb_ix 58 (by decide +kernel) rfl, ⟨by decide +kernel, by decide +kernel⟩, by decide +kernel, by decide, rfl⟩
theorem sb_TB_remove : tb_SB m_TB_remove 1 := ⟨tb_ix 300 (by decide +kernel) rfl, tb_ix 58 (by decide +kernel) rfl, ⟨by decide +kernel, by decide +kernel⟩, by decide +kernel, by decide, rfl⟩
theorem sb_TB_did : tb_SB m_TB_did 1 := ⟨tb_ix 312 (by decide +kernel) rfl, tb_ix 58 (by decide +kernel) rfl, ⟨by decide +kernel, by decide +kernel⟩, by decide +kernel, by decide, rfl⟩
theorem sb_TB_isTold : tb_SB m_TB_isTold 1 := ⟨tb_ix 316 (by decide +kernel) rfl, tb_ix 58 (by decide +kernel) rfl, ⟨by decide +kernel, by decide +kernel⟩, by decide +kernel, by decide, rfl⟩
theorem sb_TB_why : tb_SB m_TB_why 1 := ⟨tb_ix 328 (by decide +kernel) rfl, tb_ix 58 (by decide +kernel) rfl, ⟨by decide +kernel, by decide +kernel⟩, by decide +kernel, by decide, rfl⟩
theorem sb_TB_hazard : tb_SB m_TB_hazard 1 := ⟨tb_ix 332 (by decide +kernel) rfl, tb_ix 58 (by decide +kernel) rfl, ⟨by decide +kernel, by decide +kernel⟩, by decide +kernel, by decide, rfl⟩
theorem sb_TB_again : tb_SB m_TB_again 0 := ⟨tb_ix 344 (by decide +kernel) rfl, tb_ix 58 (by decide +kernel) rfl, ⟨by decide +kernel, by decide +kernel⟩, by decide +kernel, by decide, rfl⟩
theorem sb_TB_traces : tb_SB m_TB_traces 0 := ⟨tb_ix 348 (by decide +kernel) rfl, tb_ix 58 (by decide +kernel) rfl, ⟨by decide +kernel, by decide +kernel⟩, by decide +kernel, by decide, rfl⟩
theorem sb_TB_tear : tb_SB m_TB_tear 1 := ⟨tb_ix 356 (by decide +kernel) rfl, tb_ix 58 (by decide +kernel) rfl, ⟨by decide +kernel, by decide +kernel⟩, by decide +kernel, by decide, rfl⟩
theorem sb_TB_compact : tb_SB m_TB_compact 0 := ⟨tb_ix 364 (by decide +kernel) rfl, tb_ix 58 (by decide +kernel) rfl, ⟨by decide +kernel, by decide +kernel⟩, by decide +kernel, by decide, rfl⟩
theorem sb_TB_size : tb_SB m_TB_size 1 := ⟨tb_ix 388 (by decide +kernel) rfl, tb_ix 58 (by decide +kernel) rfl, ⟨by decide +kernel, by decide +kernel⟩, by decide +kernel, by decide, rfl⟩
theorem sb_TB_command : tb_SB m_TB_command 0 := ⟨tb_ix 397 (by decide +kernel) rfl, tb_ix 58 (by decide +kernel) rfl, ⟨by decide +kernel, by decide +kernel⟩, by decide +kernel, by decide, rfl⟩
theorem sb_TB_refuseNoCommand : tb_SB m_TB_refuseNoCommand 0 := ⟨tb_ix 401 (by decide +kernel) rfl, tb_ix 58 (by decide +kernel) rfl, ⟨by decide +kernel, by decide +kernel⟩, by decide +kernel, by decide, rfl⟩
theorem sb_TB_scriptChanged : tb_SB m_TB_scriptChanged 0 := ⟨tb_ix 527 (by decide +kernel) rfl, tb_ix 58 (by decide +kernel) rfl, ⟨by decide +kernel, by decide +kernel⟩, by decide +kernel, by decide, rfl⟩
theorem sb_TB_edit : tb_SB m_TB_edit 1 := ⟨tb_ix 535 (by decide +kernel) rfl, tb_ix 58 (by decide +kernel) rfl, ⟨by decide +kernel, by decide +kernel⟩, by decide +kernel, by decide, rfl⟩
theorem sb_TB_refuseNoPlace : tb_SB m_TB_refuseNoPlace 1 := ⟨tb_ix 539 (by decide +kernel) rfl, tb_ix 58 (by decide +kernel) rfl, ⟨by decide +kernel, by decide +kernel⟩, by decide +kernel, by decide, rfl⟩
theorem sb_TB_drop : tb_SB m_TB_drop 1 := ⟨tb_ix 566 (by decide +kernel) rfl, tb_ix 58 (by decide +kernel) rfl, ⟨by decide +kernel, by decide +kernel⟩, by decide +kernel, by decide, rfl⟩
theorem sb_TB_run : tb_SB m_TB_run 1 := ⟨tb_ix 577 (by decide +kernel) rfl, tb_ix 58 (by decide +kernel) rfl, ⟨by decide +kernel, by decide +kernel⟩, by decide +kernel, by decide, rfl⟩
theorem sb_TB_goThrough : tb_SB m_TB_goThrough 1 := ⟨tb_ix 589 (by decide +kernel) rfl, tb_ix 58 (by decide +kernel) rfl, ⟨by decide +kernel, by decide +kernel⟩, by decide +kernel, by decide, rfl⟩
theorem sb_TB_perform : tb_SB m_TB_perform 2 := ⟨tb_ix 606 (by decide +kernel) rfl, tb_ix 58 (by decide +kernel) rfl, ⟨by decide +kernel, by decide +kernel⟩, by decide +kernel, by decide, rfl⟩
theorem sb_TB_firstOf : tb_SB m_TB_firstOf 1 := ⟨tb_ix 644 (by decide +kernel) rfl, tb_ix 58 (by decide +kernel) rfl, ⟨by decide +kernel, by decide +kernel⟩, by decide +kernel, by decide, rfl⟩
theorem sb_TB_firstToGoAhead : tb_SB m_TB_firstToGoAhead 1 := ⟨tb_ix 746 (by decide +kernel) rfl, tb_ix 58 (by decide +kernel) rfl, ⟨by decide +kernel, by decide +kernel⟩, by decide +kernel, by decide, rfl⟩
theorem sb_TB_seemsSafeAhead : tb_SB m_TB_seemsSafeAhead 2 := ⟨tb_ix 750 (by decide +kernel) rfl, tb_ix 58 (by decide +kernel) rfl, ⟨by decide +kernel, by decide +kernel⟩, by decide +kernel, by decide, rfl⟩
theorem sb_TB_trace : tb_SB m_TB_trace 2 := ⟨tb_ix 771 (by decide +kernel) rfl, tb_ix 58 (by decide +kernel) rfl, ⟨by decide +kernel, by decide +kernel⟩, by decide +kernel, by decide, rfl⟩
theorem sb_TB_number : tb_SB m_TB_number 2 := ⟨tb_ix 789 (by decide +kernel) rfl, tb_ix 58 (by decide +kernel) rfl, ⟨by decide +kernel, by decide +kernel⟩, by decide +kernel, by decide, rfl⟩
theorem sb_Mo_init : tb_SB m_Mo_init 0 := ⟨tb_ix 795 (by decide +kernel) rfl, tb_ix 66 (by decide +kernel) rfl, ⟨by decide +kernel, by decide +kernel⟩, by decide +kernel, by decide, rfl⟩
theorem sb_Mo_thrown : tb_SB m_Mo_thrown 0 := ⟨tb_ix 922 (by decide +kernel) rfl, tb_ix 66 (by decide +kernel) rfl, ⟨by decide +kernel, by decide +kernel⟩, by decide +kernel, by decide, rfl⟩
theorem sb_Mo_type : tb_SB m_Mo_type 1 := ⟨tb_ix 926 (by decide +kernel) rfl, tb_ix 66 (by decide +kernel) rfl, ⟨by decide +kernel, by decide +kernel⟩, by decide +kernel, by decide, rfl⟩
theorem sb_Mo_command : tb_SB m_Mo_command 0 := ⟨tb_ix 930 (by decide +kernel) rfl, tb_ix 66 (by decide +kernel) rfl, ⟨by decide +kernel, by decide +kernel⟩, by decide +kernel, by decide, rfl⟩
theorem sb_Mo_isCommand : tb_SB m_Mo_isCommand 0 := ⟨tb_ix 934 (by decide +kernel) rfl, tb_ix 66 (by decide +kernel) rfl, ⟨by decide +kernel, by decide +kernel⟩, by decide +kernel, by decide, rfl⟩
theorem sb_Mo_fileAt : tb_SB m_Mo_fileAt 1 := ⟨tb_ix 938 (by decide +kernel) rfl, tb_ix 66 (by decide +kernel) rfl, ⟨by decide +kernel, by decide +kernel⟩, by decide +kernel, by decide, rfl⟩
theorem sb_Mo_isFile : tb_SB m_Mo_isFile 1 := ⟨tb_ix 941 (by decide +kernel) rfl, tb_ix 66 (by decide +kernel) rfl, ⟨by decide +kernel, by decide +kernel⟩, by decide +kernel, by decide, rfl⟩
theorem sb_Mo_files : tb_SB m_Mo_files 2 := ⟨tb_ix 945 (by decide +kernel) rfl, tb_ix 66 (by decide +kernel) rfl, ⟨by decide +kernel, by decide +kernel⟩, by decide +kernel, by decide, rfl⟩
theorem sb_Mo_isDigit : tb_SB m_Mo_isDigit 1 := ⟨tb_ix 949 (by decide +kernel) rfl, tb_ix 66 (by decide +kernel) rfl, ⟨by decide +kernel, by decide +kernel⟩, by decide +kernel, by decide, rfl⟩
theorem sb_Mo_digitsAndFile : tb_SB m_Mo_digitsAndFile 1 := ⟨tb_ix 953 (by decide +kernel) rfl, tb_ix 66 (by decide +kernel) rfl, ⟨by decide +kernel, by decide +kernel⟩, by decide +kernel, by decide, rfl⟩
theorem sb_Mo_fail : tb_SB m_Mo_fail 1 := ⟨tb_ix 957 (by decide +kernel) rfl, tb_ix 66 (by decide +kernel) rfl, ⟨by decide +kernel, by decide +kernel⟩, by decide +kernel, by decide, rfl⟩
theorem sb_Mo_keep : tb_SB m_Mo_keep 1 := ⟨tb_ix 961 (by decide +kernel) rfl, tb_ix 66 (by decide +kernel) rfl, ⟨by decide +kernel, by decide +kernel⟩, by decide +kernel, by decide, rfl⟩
theorem sb_Mo_edit : tb_SB m_Mo_edit 1 := ⟨tb_ix 965 (by decide +kernel) rfl, tb_ix 66 (by decide +kernel) rfl, ⟨by decide +kernel, by decide +kernel⟩, by decide +kernel, by decide, rfl⟩
theorem sb_Mo_drop : tb_SB m_Mo_drop 1 := ⟨tb_ix 969 (by decide +kernel) rfl, tb_ix 66 (by decide +kernel) rfl, ⟨by decide +kernel, by decide +kernel⟩, by decide +kernel, by decide, rfl⟩
theorem sb_Mo_commands : tb_SB m_Mo_commands 0 := ⟨tb_ix 973 (by decide +kernel) rfl, tb_ix 66 (by decide +kernel) rfl, ⟨by decide +kernel, by decide +kernel⟩, by decide +kernel, by decide, rfl⟩
theorem sb_Mo_put : tb_SB m_Mo_put 2 := ⟨tb_ix 977 (by decide +kernel) rfl, tb_ix 66 (by decide +kernel) rfl, ⟨by decide +kernel, by decide +kernel⟩, by decide +kernel, by decide, rfl⟩
theorem sb_Mo_remove : tb_SB m_Mo_remove 1 := ⟨tb_ix 981 (by decide +kernel) rfl, tb_ix 66 (by decide +kernel) rfl, ⟨by decide +kernel, by decide +kernel⟩, by decide +kernel, by decide, rfl⟩
theorem sb_Mo_run : tb_SB m_Mo_run 1 := ⟨tb_ix 985 (by decide +kernel) rfl, tb_ix 66 (by decide +kernel) rfl, ⟨by decide +kernel, by decide +kernel⟩, by decide +kernel, by decide, rfl⟩
theorem sb_Mo_save : tb_SB m_Mo_save 1 := ⟨tb_ix 989 (by decide +kernel) rfl, tb_ix 66 (by decide +kernel) rfl, ⟨by decide +kernel, by decide +kernel⟩, by decide +kernel, by decide, rfl⟩
theorem sb_Mo_attempt : tb_SB m_Mo_attempt 1 := ⟨tb_ix 993 (by decide +kernel) rfl, tb_ix 66 (by decide +kernel) rfl, ⟨by decide +kernel, by decide +kernel⟩, by decide +kernel, by decide, rfl⟩
theorem sb_Mo_perform : tb_SB m_Mo_perform 2 := ⟨tb_ix 997 (by decide +kernel) rfl, tb_ix 66 (by decide +kernel) rfl, ⟨by decide +kernel, by decide +kernel⟩, by decide +kernel, by decide, rfl⟩
theorem sb_Mo_fitting : tb_SB m_Mo_fitting 1 := ⟨tb_ix 1001 (by decide +kernel) rfl, tb_ix 66 (by decide +kernel) rfl, ⟨by decide +kernel, by decide +kernel⟩, by decide +kernel, by decide, rfl⟩
theorem sb_Mo_isOf : tb_SB m_Mo_isOf 2 := ⟨tb_ix 1005 (by decide +kernel) rfl, tb_ix 66 (by decide +kernel) rfl, ⟨by decide +kernel, by decide +kernel⟩, by decide +kernel, by decide, rfl⟩
theorem sb_Mo_changedFor : tb_SB m_Mo_changedFor 1 := ⟨tb_ix 1009 (by decide +kernel) rfl, tb_ix 66 (by decide +kernel) rfl, ⟨by decide +kernel, by decide +kernel⟩, by decide +kernel, by decide, rfl⟩
theorem sb_Mo_isAsRead : tb_SB m_Mo_isAsRead 2 := ⟨tb_ix 1013 (by decide +kernel) rfl, tb_ix 66 (by decide +kernel) rfl, ⟨by decide +kernel, by decide +kernel⟩, by decide +kernel, by decide, rfl⟩
theorem sb_Mo_isWritten : tb_SB m_Mo_isWritten 1 := ⟨tb_ix 1017 (by decide +kernel) rfl, tb_ix 66 (by decide +kernel) rfl, ⟨by decide +kernel, by decide +kernel⟩, by decide +kernel, by decide, rfl⟩
theorem sb_Mo_latestOf : tb_SB m_Mo_latestOf 1 := ⟨tb_ix 1021 (by decide +kernel) rfl, tb_ix 66 (by decide +kernel) rfl, ⟨by decide +kernel, by decide +kernel⟩, by decide +kernel, by decide, rfl⟩
theorem sb_Mo_work : tb_SB m_Mo_work 1 := ⟨tb_ix 1025 (by decide +kernel) rfl, tb_ix 66 (by decide +kernel) rfl, ⟨by decide +kernel, by decide +kernel⟩, by decide +kernel, by decide, rfl⟩
theorem sb_Mo_letter : tb_SB m_Mo_letter 2 := ⟨tb_ix 1029 (by decide +kernel) rfl, tb_ix 66 (by decide +kernel) rfl, ⟨by decide +kernel, by decide +kernel⟩, by decide +kernel, by decide, rfl⟩
theorem sb_Mo_readFile : tb_SB m_Mo_readFile 1 := ⟨tb_ix 1033 (by decide +kernel) rfl, tb_ix 66 (by decide +kernel) rfl, ⟨by decide +kernel, by decide +kernel⟩, by decide +kernel, by decide, rfl⟩
theorem sb_Mo_addAll : tb_SB m_Mo_addAll 2 := ⟨tb_ix 1037 (by decide +kernel) rfl, tb_ix 66 (by decide +kernel) rfl, ⟨by decide +kernel, by decide +kernel⟩, by decide +kernel, by decide, rfl⟩
theorem sb_Mo_add : tb_SB m_Mo_add 1 := ⟨tb_ix 1041 (by decide +kernel) rfl, tb_ix 66 (by decide +kernel) rfl, ⟨by decide +kernel, by decide +kernel⟩, by decide +kernel, by decide, rfl⟩
theorem sb_Mo_join : tb_SB m_Mo_join 2 := ⟨tb_ix 1045 (by decide +kernel) rfl, tb_ix 66 (by decide +kernel) rfl, ⟨by decide +kernel, by decide +kernel⟩, by decide +kernel, by decide, rfl⟩
theorem sb_Mo_sums : tb_SB m_Mo_sums 2 := ⟨tb_ix 1049 (by decide +kernel) rfl, tb_ix 66 (by decide +kernel) rfl, ⟨by decide +kernel, by decide +kernel⟩, by decide +kernel, by decide, rfl⟩
theorem sb_Mo_sort : tb_SB m_Mo_sort 0 := ⟨tb_ix 1053 (by decide +kernel) rfl, tb_ix 66 (by decide +kernel) rfl, ⟨by decide +kernel, by decide +kernel⟩, by decide +kernel, by decide, rfl⟩
theorem sb_Mo_digits : tb_SB m_Mo_digits 2 := ⟨tb_ix 1057 (by decide +kernel) rfl, tb_ix 66 (by decide +kernel) rfl, ⟨by decide +kernel, by decide +kernel⟩, by decide +kernel, by decide, rfl⟩
theorem sb_Mo_ask : tb_SB m_Mo_ask 1 := ⟨tb_ix 1061 (by decide +kernel) rfl, tb_ix 66 (by decide +kernel) rfl, ⟨by decide +kernel, by decide +kernel⟩, by decide +kernel, by decide, rfl⟩
theorem sb_Mo_there : tb_SB m_Mo_there 1 := ⟨tb_ix 1065 (by decide +kernel) rfl, tb_ix 66 (by decide +kernel) rfl, ⟨by decide +kernel, by decide +kernel⟩, by decide +kernel, by decide, rfl⟩
theorem sb_Mo_record : tb_SB m_Mo_record 1 := ⟨tb_ix 1069 (by decide +kernel) rfl, tb_ix 66 (by decide +kernel) rfl, ⟨by decide +kernel, by decide +kernel⟩, by decide +kernel, by decide, rfl⟩
theorem sb_Mo_copyTrace : tb_SB m_Mo_copyTrace 2 := ⟨tb_ix 1073 (by decide +kernel) rfl, tb_ix 66 (by decide +kernel) rfl, ⟨by decide +kernel, by decide +kernel⟩, by decide +kernel, by decide, rfl⟩
theorem sb_Mo_write : tb_SB m_Mo_write 1 := ⟨tb_ix 1077 (by decide +kernel) rfl, tb_ix 66 (by decide +kernel) rfl, ⟨by decide +kernel, by decide +kernel⟩, by decide +kernel, by decide, rfl⟩
theorem sb_Mo_isHazard : tb_SB m_Mo_isHazard 1 := ⟨tb_ix 1081 (by decide +kernel) rfl, tb_ix 66 (by decide +kernel) rfl, ⟨by decide +kernel, by decide +kernel⟩, by decide +kernel, by decide, rfl⟩
theorem sb_Mo_isHazardOf : tb_SB m_Mo_isHazardOf 2 := ⟨tb_ix 1085 (by decide +kernel) rfl, tb_ix 66 (by decide +kernel) rfl, ⟨by decide +kernel, by decide +kernel⟩, by decide +kernel, by decide, rfl⟩
theorem sb_Mo_kindOf : tb_SB m_Mo_kindOf 2 := ⟨tb_ix 1089 (by decide +kernel) rfl, tb_ix 66 (by decide +kernel) rfl, ⟨by decide +kernel, by decide +kernel⟩, by decide +kernel, by decide, rfl⟩
theorem sb_Mo_meets : tb_SB m_Mo_meets 2 := ⟨tb_ix 1093 (by decide +kernel) rfl, tb_ix 66 (by decide +kernel) rfl, ⟨by decide +kernel, by decide +kernel⟩, by decide +kernel, by decide, rfl⟩
theorem sb_Mo_tryAhead : tb_SB m_Mo_tryAhead 2 := ⟨tb_ix 1097 (by decide +kernel) rfl, tb_ix 66 (by decide +kernel) rfl, ⟨by decide +kernel, by decide +kernel⟩, by decide +kernel, by decide, rfl⟩
theorem sb_Mo_isSafe : tb_SB m_Mo_isSafe 2 := ⟨tb_ix 1101 (by decide +kernel) rfl, tb_ix 66 (by decide +kernel) rfl, ⟨by decide +kernel, by decide +kernel⟩, by decide +kernel, by decide, rfl⟩
theorem sb_Mo_apart : tb_SB m_Mo_apart 2 := ⟨tb_ix 1105 (by decide +kernel) rfl, tb_ix 66 (by decide +kernel) rfl, ⟨by decide +kernel, by decide +kernel⟩, by decide +kernel, by decide, rfl⟩
theorem sb_Mo_did : tb_SB m_Mo_did 1 := ⟨tb_ix 1109 (by decide +kernel) rfl, tb_ix 66 (by decide +kernel) rfl, ⟨by decide +kernel, by decide +kernel⟩, by decide +kernel, by decide, rfl⟩
theorem sb_Mo_wasRun : tb_SB m_Mo_wasRun 1 := ⟨tb_ix 1113 (by decide +kernel) rfl, tb_ix 66 (by decide +kernel) rfl, ⟨by decide +kernel, by decide +kernel⟩, by decide +kernel, by decide, rfl⟩
theorem sb_Mo_why : tb_SB m_Mo_why 1 := ⟨tb_ix 1117 (by decide +kernel) rfl, tb_ix 66 (by decide +kernel) rfl, ⟨by decide +kernel, by decide +kernel⟩, by decide +kernel, by decide, rfl⟩
theorem sb_Mo_hazard : tb_SB m_Mo_hazard 1 := ⟨tb_ix 1121 (by decide +kernel) rfl, tb_ix 66 (by decide +kernel) rfl, ⟨by decide +kernel, by decide +kernel⟩, by decide +kernel, by decide, rfl⟩
theorem sb_Mo_again : tb_SB m_Mo_again 0 := ⟨tb_ix 1125 (by decide +kernel) rfl, tb_ix 66 (by decide +kernel) rfl, ⟨by decide +kernel, by decide +kernel⟩, by decide +kernel, by decide, rfl⟩
theorem sb_Mo_traces : tb_SB m_Mo_traces 0 := ⟨tb_ix 1129 (by decide +kernel) rfl, tb_ix 66 (by decide +kernel) rfl, ⟨by decide +kernel, by decide +kernel⟩, by decide +kernel, by decide, rfl⟩
theorem sb_Mo_trace : tb_SB m_Mo_trace 2 := ⟨tb_ix 1133 (by decide +kernel) rfl, tb_ix 66 (by decide +kernel) rfl, ⟨by decide +kernel, by decide +kernel⟩, by decide +kernel, by decide, rfl⟩
theorem sb_Mo_tear : tb_SB m_Mo_tear 1 := ⟨tb_ix 1137 (by decide +kernel) rfl, tb_ix 66 (by decide +kernel) rfl, ⟨by decide +kernel, by decide +kernel⟩, by decide +kernel, by decide, rfl⟩
theorem sb_Mo_compact : tb_SB m_Mo_compact 0 := ⟨tb_ix 1141 (by decide +kernel) rfl, tb_ix 66 (by decide +kernel) rfl, ⟨by decide +kernel, by decide +kernel⟩, by decide +kernel, by decide, rfl⟩
theorem sb_Mo_sameText : tb_SB m_Mo_sameText 2 := ⟨tb_ix 1145 (by decide +kernel) rfl, tb_ix 66 (by decide +kernel) rfl, ⟨by decide +kernel, by decide +kernel⟩, by decide +kernel, by decide, rfl⟩
theorem sb_Mo_size : tb_SB m_Mo_size 1 := ⟨tb_ix 1149 (by decide +kernel) rfl, tb_ix 66 (by decide +kernel) rfl, ⟨by decide +kernel, by decide +kernel⟩, by decide +kernel, by decide, rfl⟩
theorem sb_Mo_number : tb_SB m_Mo_number 2 := ⟨tb_ix 1153 (by decide +kernel) rfl, tb_ix 66 (by decide +kernel) rfl, ⟨by decide +kernel, by decide +kernel⟩, by decide +kernel, by decide, rfl⟩
theorem sb_Cr_work : tb_SB m_Cr_work 3 := ⟨tb_ix 651 (by decide +kernel) rfl, tb_ix 73 (by decide +kernel) rfl, ⟨by decide +kernel, by decide +kernel⟩, by decide +kernel, by decide, rfl⟩
theorem sb_Cr_read : tb_SB m_Cr_read 2 := ⟨tb_ix 665 (by decide +kernel) rfl, tb_ix 73 (by decide +kernel) rfl, ⟨by decide +kernel, by decide +kernel⟩, by decide +kernel, by decide, rfl⟩
theorem sb_Cr_workPlain : tb_SB m_Cr_workPlain 2 := ⟨tb_ix 674 (by decide +kernel) rfl, tb_ix 73 (by decide +kernel) rfl, ⟨by decide +kernel, by decide +kernel⟩, by decide +kernel, by decide, rfl⟩
theorem sb_Cr_copy : tb_SB m_Cr_copy 2 := ⟨tb_ix 681 (by decide +kernel) rfl, tb_ix 73 (by decide +kernel) rfl, ⟨by decide +kernel, by decide +kernel⟩, by decide +kernel, by decide, rfl⟩
theorem sb_Cr_sum : tb_SB m_Cr_sum 3 := ⟨tb_ix 685 (by decide +kernel) rfl, tb_ix 73 (by decide +kernel) rfl, ⟨by decide +kernel, by decide +kernel⟩, by decide +kernel, by decide, rfl⟩
theorem sb_Cr_copyDivided : tb_SB m_Cr_copyDivided 3 := ⟨tb_ix 696 (by decide +kernel) rfl, tb_ix 73 (by decide +kernel) rfl, ⟨by decide +kernel, by decide +kernel⟩, by decide +kernel, by decide, rfl⟩
theorem sb_Cr_copyDigits : tb_SB m_Cr_copyDigits 2 := ⟨tb_ix 699 (by decide +kernel) rfl, tb_ix 73 (by decide +kernel) rfl, ⟨by decide +kernel, by decide +kernel⟩, by decide +kernel, by decide, rfl⟩
theorem sb_Cr_tellIfThere : tb_SB m_Cr_tellIfThere 2 := ⟨tb_ix 702 (by decide +kernel) rfl, tb_ix 73 (by decide +kernel) rfl, ⟨by decide +kernel, by decide +kernel⟩, by decide +kernel, by decide, rfl⟩
theorem sb_Cr_listFiles : tb_SB m_Cr_listFiles 1 := ⟨tb_ix 706 (by decide +kernel) rfl, tb_ix 73 (by decide +kernel) rfl, ⟨by decide +kernel, by decide +kernel⟩, by decide +kernel, by decide, rfl⟩
theorem sb_La_command : tb_SB m_La_command 2 := ⟨tb_ix 391 (by decide +kernel) rfl, tb_ix 57 (by decide +kernel) rfl, ⟨by decide +kernel, by decide +kernel⟩, by decide +kernel, by decide, rfl⟩
theorem sb_La_edit : tb_SB m_La_edit 2 := ⟨tb_ix 530 (by decide +kernel) rfl, tb_ix 57 (by decide +kernel) rfl, ⟨by decide +kernel, by decide +kernel⟩, by decide +kernel, by decide, rfl⟩
theorem sb_La_drop : tb_SB m_La_drop 2 := ⟨tb_ix 562 (by decide +kernel) rfl, tb_ix 57 (by decide +kernel) rfl, ⟨by decide +kernel, by decide +kernel⟩, by decide +kernel, by decide, rfl⟩
theorem sb_La_run : tb_SB m_La_run 3 := ⟨tb_ix 573 (by decide +kernel) rfl, tb_ix 57 (by decide +kernel) rfl, ⟨by decide +kernel, by decide +kernel⟩, by decide +kernel, by decide, rfl⟩
theorem sb_La_trace : tb_SB m_La_trace 4 := ⟨tb_ix 767 (by decide +kernel) rfl, tb_ix 57 (by decide +kernel) rfl, ⟨by decide +kernel, by decide +kernel⟩, by decide +kernel, by decide, rfl⟩
theorem sb_La_number : tb_SB m_La_number 4 := ⟨tb_ix 785 (by decide +kernel) rfl, tb_ix 57 (by decide +kernel) rfl, ⟨by decide +kernel, by decide +kernel⟩, by decide +kernel, by decide, rfl⟩
theorem c_De_32 : tb_SV "TracedBuild$Deed" 32 6 m_Tr_written 0 := ⟨sb_Tr_written, rfl, tb_ix 721 (by decide +kernel) rfl, tb_ix 722 (by decide +kernel) rfl, tb_ix 723 (by decide +kernel) rfl, by decide, rfl⟩
theorem c_Lg_17 : tb_SIN "TracedBuild$Log" 17 m_De_init 0 "TracedBuild" := ⟨sb_De_init, rfl, rfl, rfl, by decide +kernel, tb_ix 186 (by decide +kernel) rfl⟩
theorem c_Lg_25 : tb_SV "TracedBuild$Log" 25 0 m_De_forget 0 := ⟨sb_De_forget, rfl, tb_ix 594 (by decide +kernel) rfl, tb_ix 595 (by decide +kernel) rfl, tb_ix 596 (by decide +kernel) rfl, by decide, rfl⟩
theorem c_Lg_32 : tb_SV "TracedBuild$Log" 32 1 m_Lg_hasHazard 0 := ⟨sb_Lg_hasHazard, rfl, tb_ix 337 (by decide +kernel) rfl, tb_ix 338 (by decide +kernel) rfl, tb_ix 339 (by decide +kernel) rfl, by decide, rfl⟩
theorem c_Lg_45 : tb_SV "TracedBuild$Log" 45 1 m_Lg_lookForHazard2 2 := ⟨sb_Lg_lookForHazard2, rfl, tb_ix 729 (by decide +kernel) rfl, tb_ix 731 (by decide +kernel) rfl, tb_ix 12 (by decide +kernel) rfl, by decide, rfl⟩
theorem c_Lg_52 : tb_SV "TracedBuild$Log" 52 0 m_De_isDone 0 := ⟨sb_De_isDone, rfl, tb_ix 733 (by decide +kernel) rfl, tb_ix 600 (by decide +kernel) rfl, tb_ix 601 (by decide +kernel) rfl, by decide, rfl⟩
theorem c_Lg_55 : tb_SV "TracedBuild$Log" 55 1 m_Lg_lookBetween 3 := ⟨sb_Lg_lookBetween, rfl, tb_ix 734 (by decide +kernel) rfl, tb_ix 736 (by decide +kernel) rfl, tb_ix 13 (by decide +kernel) rfl, by decide, rfl⟩
theorem c_Lg_59 : tb_SV "TracedBuild$Log" 59 1 m_Lg_filesInTheWay 3 := ⟨sb_Lg_filesInTheWay, rfl, tb_ix 738 (by decide +kernel) rfl, tb_ix 740 (by decide +kernel) rfl, tb_ix 14 (by decide +kernel) rfl, by decide, rfl⟩
theorem c_Lg_63 : tb_SSN "TracedBuild$Log" 63 m_TB_firstOf 1 "TracedBuild" := ⟨sb_TB_firstOf, by decide +kernel, tb_ix 643 (by decide +kernel) rfl⟩
theorem c_Sc_17 : tb_SI "TracedBuild$Script" 17 m_Tx_init 0 := ⟨sb_Tx_init, rfl, rfl, rfl, tb_ix 105 (by decide +kernel) rfl, tb_ix 86 (by decide +kernel) rfl⟩
theorem c_Sc_22 : tb_SV "TracedBuild$Script" 22 5 m_Tx_become 1 := ⟨sb_Tx_become, rfl, tb_ix 520 (by decide +kernel) rfl, tb_ix 521 (by decide +kernel) rfl, tb_ix 522 (by decide +kernel) rfl, by decide, rfl⟩
theorem c_Sh_19 : tb_SV "TracedBuild$Shelf" 19 3 m_Sh_length 1 := ⟨sb_Sh_length, rfl, tb_ix 292 (by decide +kernel) rfl, tb_ix 293 (by decide +kernel) rfl, tb_ix 294 (by decide +kernel) rfl, by decide, rfl⟩
theorem c_Sh_23 : tb_SV "TracedBuild$Shelf" 23 3 m_Sh_become 3 := ⟨sb_Sh_become, rfl, tb_ix 582 (by decide +kernel) rfl, tb_ix 583 (by decide +kernel) rfl, tb_ix 584 (by decide +kernel) rfl, by decide, rfl⟩
theorem c_St_17 : tb_SI "TracedBuild$Store" 17 m_Tr_init 0 := ⟨sb_Tr_init, rfl, rfl, rfl, tb_ix 137 (by decide +kernel) rfl, tb_ix 138 (by decide +kernel) rfl⟩
theorem c_St_22 : tb_SV "TracedBuild$Store" 22 6 m_Tr_isOf 1 := ⟨sb_Tr_isOf, rfl, tb_ix 373 (by decide +kernel) rfl, tb_ix 374 (by decide +kernel) rfl, tb_ix 375 (by decide +kernel) rfl, by decide, rfl⟩
theorem c_St_26 : tb_SV "TracedBuild$Store" 26 6 m_Tr_fits 1 := ⟨sb_Tr_fits, rfl, tb_ix 615 (by decide +kernel) rfl, tb_ix 616 (by decide +kernel) rfl, tb_ix 617 (by decide +kernel) rfl, by decide, rfl⟩
theorem c_St_30 : tb_SV "TracedBuild$Store" 30 4 m_St_latest 1 := ⟨sb_St_latest, rfl, tb_ix 636 (by decide +kernel) rfl, tb_ix 637 (by decide +kernel) rfl, tb_ix 638 (by decide +kernel) rfl, by decide, rfl⟩
theorem c_St_34 : tb_SV "TracedBuild$Store" 34 6 m_Tr_readAndChanged 1 := ⟨sb_Tr_readAndChanged, rfl, tb_ix 640 (by decide +kernel) rfl, tb_ix 625 (by decide +kernel) rfl, tb_ix 626 (by decide +kernel) rfl, by decide, rfl⟩
theorem c_St_38 : tb_SV "TracedBuild$Store" 38 6 m_Tr_askedAndChanged 1 := ⟨sb_Tr_askedAndChanged, rfl, tb_ix 641 (by decide +kernel) rfl, tb_ix 620 (by decide +kernel) rfl, tb_ix 621 (by decide +kernel) rfl, by decide, rfl⟩
theorem c_St_41 : tb_SSN "TracedBuild$Store" 41 m_TB_firstOf 1 "TracedBuild" := ⟨sb_TB_firstOf, by decide +kernel, tb_ix 643 (by decide +kernel) rfl⟩
theorem c_St_45 : tb_SV "TracedBuild$Store" 45 4 m_St_isFollowedByItsLike 1 := ⟨sb_St_isFollowedByItsLike, rfl, tb_ix 369 (by decide +kernel) rfl, tb_ix 371 (by decide +kernel) rfl, tb_ix 1 (by decide +kernel) rfl, by decide, rfl⟩
theorem c_St_49 : tb_SV "TracedBuild$Store" 49 4 m_St_swap 2 := ⟨sb_St_swap, rfl, tb_ix 381 (by decide +kernel) rfl, tb_ix 383 (by decide +kernel) rfl, tb_ix 2 (by decide +kernel) rfl, by decide, rfl⟩
theorem c_Tx_19 : tb_SV "TracedBuild$Text" 19 5 m_Tx_at 1 := ⟨sb_Tx_at, rfl, tb_ix 406 (by decide +kernel) rfl, tb_ix 407 (by decide +kernel) rfl, tb_ix 408 (by decide +kernel) rfl, by decide, rfl⟩
theorem c_Tx_23 : tb_SV "TracedBuild$Text" 23 5 m_Tx_fileAt 1 := ⟨sb_Tx_fileAt, rfl, tb_ix 410 (by decide +kernel) rfl, tb_ix 411 (by decide +kernel) rfl, tb_ix 412 (by decide +kernel) rfl, by decide, rfl⟩
theorem c_Tx_27 : tb_SV "TracedBuild$Text" 27 5 m_Tx_isPlainCommand 1 := ⟨sb_Tx_isPlainCommand, rfl, tb_ix 414 (by decide +kernel) rfl, tb_ix 416 (by decide +kernel) rfl, tb_ix 4 (by decide +kernel) rfl, by decide, rfl⟩
theorem c_Tx_31 : tb_SV "TracedBuild$Text" 31 5 m_Tx_isFilesToEnd 2 := ⟨sb_Tx_isFilesToEnd, rfl, tb_ix 418 (by decide +kernel) rfl, tb_ix 420 (by decide +kernel) rfl, tb_ix 5 (by decide +kernel) rfl, by decide, rfl⟩
theorem c_Tx_35 : tb_SV "TracedBuild$Text" 35 5 m_Tx_digitAt 1 := ⟨sb_Tx_digitAt, rfl, tb_ix 422 (by decide +kernel) rfl, tb_ix 423 (by decide +kernel) rfl, tb_ix 424 (by decide +kernel) rfl, by decide, rfl⟩
theorem c_Tx_38 : tb_SV "TracedBuild$Text" 38 5 m_Tx_isDigitsAndFile 1 := ⟨sb_Tx_isDigitsAndFile, rfl, tb_ix 426 (by decide +kernel) rfl, tb_ix 428 (by decide +kernel) rfl, tb_ix 6 (by decide +kernel) rfl, by decide, rfl⟩
theorem c_Tr_11 : tb_SI "TracedBuild$Trace" 11 m_Tx_init 0 := ⟨sb_Tx_init, rfl, rfl, rfl, tb_ix 142 (by decide +kernel) rfl, tb_ix 86 (by decide +kernel) rfl⟩
theorem c_Tr_20 : tb_SI "TracedBuild$Trace" 20 m_Sh_init 1 := ⟨sb_Sh_init, rfl, rfl, rfl, tb_ix 144 (by decide +kernel) rfl, tb_ix 116 (by decide +kernel) rfl⟩
theorem c_Tr_37 : tb_SV "TracedBuild$Trace" 37 5 m_Tx_become 1 := ⟨sb_Tx_become, rfl, tb_ix 656 (by decide +kernel) rfl, tb_ix 521 (by decide +kernel) rfl, tb_ix 522 (by decide +kernel) rfl, by decide, rfl⟩
theorem c_Tr_41 : tb_SV "TracedBuild$Trace" 41 3 m_Sh_becomeAll 1 := ⟨sb_Sh_becomeAll, rfl, tb_ix 657 (by decide +kernel) rfl, tb_ix 579 (by decide +kernel) rfl, tb_ix 580 (by decide +kernel) rfl, by decide, rfl⟩
theorem c_Tr_45 : tb_SV "TracedBuild$Trace" 45 5 m_Tx_isSame 1 := ⟨sb_Tx_isSame, rfl, tb_ix 377 (by decide +kernel) rfl, tb_ix 378 (by decide +kernel) rfl, tb_ix 379 (by decide +kernel) rfl, by decide, rfl⟩
theorem c_Tr_49 : tb_SV "TracedBuild$Trace" 49 3 m_Sh_isSame 3 := ⟨sb_Sh_isSame, rfl, tb_ix 628 (by decide +kernel) rfl, tb_ix 629 (by decide +kernel) rfl, tb_ix 630 (by decide +kernel) rfl, by decide, rfl⟩
theorem c_Tr_52 : tb_SV "TracedBuild$Trace" 52 3 m_Sh_thoseThere 0 := ⟨sb_Sh_thoseThere, rfl, tb_ix 623 (by decide +kernel) rfl, tb_ix 608 (by decide +kernel) rfl, tb_ix 609 (by decide +kernel) rfl, by decide, rfl⟩
theorem c_Tr_56 : tb_SV "TracedBuild$Trace" 56 6 m_Tr_askedAndChanged 1 := ⟨sb_Tr_askedAndChanged, rfl, tb_ix 619 (by decide +kernel) rfl, tb_ix 620 (by decide +kernel) rfl, tb_ix 621 (by decide +kernel) rfl, by decide, rfl⟩
theorem c_Tr_60 : tb_SV "TracedBuild$Trace" 60 6 m_Tr_readAndChanged 1 := ⟨sb_Tr_readAndChanged, rfl, tb_ix 624 (by decide +kernel) rfl, tb_ix 625 (by decide +kernel) rfl, tb_ix 626 (by decide +kernel) rfl, by decide, rfl⟩
theorem c_Tr_63 : tb_SV "TracedBuild$Trace" 63 3 m_Sh_become 3 := ⟨sb_Sh_become, rfl, tb_ix 712 (by decide +kernel) rfl, tb_ix 583 (by decide +kernel) rfl, tb_ix 584 (by decide +kernel) rfl, by decide, rfl⟩
theorem c_Tr_66 : tb_SV "TracedBuild$Trace" 66 6 m_Tr_written 0 := ⟨sb_Tr_written, rfl, tb_ix 756 (by decide +kernel) rfl, tb_ix 722 (by decide +kernel) rfl, tb_ix 723 (by decide +kernel) rfl, by decide, rfl⟩
theorem c_Tr_69 : tb_SV "TracedBuild$Trace" 69 6 m_Tr_touched 0 := ⟨sb_Tr_touched, rfl, tb_ix 757 (by decide +kernel) rfl, tb_ix 759 (by decide +kernel) rfl, tb_ix 17 (by decide +kernel) rfl, by decide, rfl⟩
theorem c_Tr_72 : tb_SV "TracedBuild$Trace" 72 5 m_Tx_length 0 := ⟨sb_Tx_length, rfl, tb_ix 780 (by decide +kernel) rfl, tb_ix 659 (by decide +kernel) rfl, tb_ix 660 (by decide +kernel) rfl, by decide, rfl⟩
theorem c_Tr_75 : tb_SV "TracedBuild$Trace" 75 3 m_Sh_isThere 1 := ⟨sb_Sh_isThere, rfl, tb_ix 781 (by decide +kernel) rfl, tb_ix 302 (by decide +kernel) rfl, tb_ix 303 (by decide +kernel) rfl, by decide, rfl⟩
theorem c_Tr_79 : tb_SV "TracedBuild$Trace" 79 3 m_Sh_length 1 := ⟨sb_Sh_length, rfl, tb_ix 782 (by decide +kernel) rfl, tb_ix 293 (by decide +kernel) rfl, tb_ix 294 (by decide +kernel) rfl, by decide, rfl⟩
theorem c_TB_9 : tb_SI "TracedBuild" 9 m_Tx_init 0 := ⟨sb_Tx_init, rfl, rfl, rfl, tb_ix 85 (by decide +kernel) rfl, tb_ix 86 (by decide +kernel) rfl⟩
theorem c_TB_18 : tb_SI "TracedBuild" 18 m_Sc_init 0 := ⟨sb_Sc_init, rfl, rfl, rfl, tb_ix 99 (by decide +kernel) rfl, tb_ix 100 (by decide +kernel) rfl⟩
theorem c_TB_25 : tb_SI "TracedBuild" 25 m_Sh_init 1 := ⟨sb_Sh_init, rfl, rfl, rfl, tb_ix 115 (by decide +kernel) rfl, tb_ix 116 (by decide +kernel) rfl⟩
theorem c_TB_37 : tb_SI "TracedBuild" 37 m_St_init 0 := ⟨sb_St_init, rfl, rfl, rfl, tb_ix 130 (by decide +kernel) rfl, tb_ix 131 (by decide +kernel) rfl⟩
theorem c_TB_44 : tb_SI "TracedBuild" 44 m_Lg_init 0 := ⟨sb_Lg_init, rfl, rfl, rfl, tb_ix 178 (by decide +kernel) rfl, tb_ix 179 (by decide +kernel) rfl⟩
theorem c_TB_57 : tb_SV "TracedBuild" 57 5 m_Tx_append 1 := ⟨sb_Tx_append, rfl, tb_ix 269 (by decide +kernel) rfl, tb_ix 270 (by decide +kernel) rfl, tb_ix 271 (by decide +kernel) rfl, by decide, rfl⟩
theorem c_TB_61 : tb_SV "TracedBuild" 61 7 m_TB_refuseNoCommand 0 := ⟨sb_TB_refuseNoCommand, rfl, tb_ix 398 (by decide +kernel) rfl, tb_ix 400 (by decide +kernel) rfl, tb_ix 3 (by decide +kernel) rfl, by decide, rfl⟩
theorem c_TB_64 : tb_SV "TracedBuild" 64 2 m_Sc_isFull 0 := ⟨sb_Sc_isFull, rfl, tb_ix 497 (by decide +kernel) rfl, tb_ix 498 (by decide +kernel) rfl, tb_ix 499 (by decide +kernel) rfl, by decide, rfl⟩
theorem c_TB_71 : tb_SV "TracedBuild" 71 2 m_Sc_append 1 := ⟨sb_Sc_append, rfl, tb_ix 516 (by decide +kernel) rfl, tb_ix 517 (by decide +kernel) rfl, tb_ix 518 (by decide +kernel) rfl, by decide, rfl⟩
theorem c_TB_74 : tb_SV "TracedBuild" 74 7 m_TB_scriptChanged 0 := ⟨sb_TB_scriptChanged, rfl, tb_ix 524 (by decide +kernel) rfl, tb_ix 526 (by decide +kernel) rfl, tb_ix 8 (by decide +kernel) rfl, by decide, rfl⟩
theorem c_TB_77 : tb_SV "TracedBuild" 77 5 m_Tx_clear 0 := ⟨sb_Tx_clear, rfl, tb_ix 430 (by decide +kernel) rfl, tb_ix 431 (by decide +kernel) rfl, tb_ix 432 (by decide +kernel) rfl, by decide, rfl⟩
theorem c_TB_80 : tb_SV "TracedBuild" 80 7 m_TB_refuseNoPlace 1 := ⟨sb_TB_refuseNoPlace, rfl, tb_ix 536 (by decide +kernel) rfl, tb_ix 538 (by decide +kernel) rfl, tb_ix 9 (by decide +kernel) rfl, by decide, rfl⟩
theorem c_TB_83 : tb_SV "TracedBuild" 83 2 m_Sc_at 1 := ⟨sb_Sc_at, rfl, tb_ix 555 (by decide +kernel) rfl, tb_ix 556 (by decide +kernel) rfl, tb_ix 557 (by decide +kernel) rfl, by decide, rfl⟩
theorem c_TB_87 : tb_SV "TracedBuild" 87 5 m_Tx_become 1 := ⟨sb_Tx_become, rfl, tb_ix 559 (by decide +kernel) rfl, tb_ix 521 (by decide +kernel) rfl, tb_ix 522 (by decide +kernel) rfl, by decide, rfl⟩
theorem c_TB_91 : tb_SV "TracedBuild" 91 2 m_Sc_takeOut 1 := ⟨sb_Sc_takeOut, rfl, tb_ix 567 (by decide +kernel) rfl, tb_ix 568 (by decide +kernel) rfl, tb_ix 569 (by decide +kernel) rfl, by decide, rfl⟩
theorem c_TB_94 : tb_SV "TracedBuild" 94 2 m_Sc_length 0 := ⟨sb_Sc_length, rfl, tb_ix 277 (by decide +kernel) rfl, tb_ix 278 (by decide +kernel) rfl, tb_ix 279 (by decide +kernel) rfl, by decide, rfl⟩
theorem c_TB_98 : tb_SS "TracedBuild" 98 m_TB_isFile 1 := ⟨sb_TB_isFile, tb_ix 285 (by decide +kernel) rfl, tb_ix 286 (by decide +kernel) rfl⟩
theorem c_TB_102 : tb_SV "TracedBuild" 102 3 m_Sh_append 2 := ⟨sb_Sh_append, rfl, tb_ix 288 (by decide +kernel) rfl, tb_ix 289 (by decide +kernel) rfl, tb_ix 290 (by decide +kernel) rfl, by decide, rfl⟩
theorem c_TB_105 : tb_SV "TracedBuild" 105 3 m_Sh_length 1 := ⟨sb_Sh_length, rfl, tb_ix 296 (by decide +kernel) rfl, tb_ix 293 (by decide +kernel) rfl, tb_ix 294 (by decide +kernel) rfl, by decide, rfl⟩
theorem c_TB_108 : tb_SV "TracedBuild" 108 3 m_Sh_isThere 1 := ⟨sb_Sh_isThere, rfl, tb_ix 301 (by decide +kernel) rfl, tb_ix 302 (by decide +kernel) rfl, tb_ix 303 (by decide +kernel) rfl, by decide, rfl⟩
theorem c_TB_111 : tb_SV "TracedBuild" 111 3 m_Sh_takeAway 1 := ⟨sb_Sh_takeAway, rfl, tb_ix 305 (by decide +kernel) rfl, tb_ix 306 (by decide +kernel) rfl, tb_ix 307 (by decide +kernel) rfl, by decide, rfl⟩
theorem c_TB_117 : tb_SV "TracedBuild" 117 3 m_Sh_becomeAll 1 := ⟨sb_Sh_becomeAll, rfl, tb_ix 578 (by decide +kernel) rfl, tb_ix 579 (by decide +kernel) rfl, tb_ix 580 (by decide +kernel) rfl, by decide, rfl⟩
theorem c_TB_121 : tb_SV "TracedBuild" 121 7 m_TB_goThrough 1 := ⟨sb_TB_goThrough, rfl, tb_ix 586 (by decide +kernel) rfl, tb_ix 588 (by decide +kernel) rfl, tb_ix 10 (by decide +kernel) rfl, by decide, rfl⟩
theorem c_TB_124 : tb_SV "TracedBuild" 124 1 m_Lg_isSpeculative 0 := ⟨sb_Lg_isSpeculative, rfl, tb_ix 761 (by decide +kernel) rfl, tb_ix 762 (by decide +kernel) rfl, tb_ix 763 (by decide +kernel) rfl, by decide, rfl⟩
theorem c_TB_127 : tb_SV "TracedBuild" 127 1 m_Lg_hasHazard 0 := ⟨sb_Lg_hasHazard, rfl, tb_ix 598 (by decide +kernel) rfl, tb_ix 338 (by decide +kernel) rfl, tb_ix 339 (by decide +kernel) rfl, by decide, rfl⟩
theorem c_TB_130 : tb_SV "TracedBuild" 130 7 m_TB_isTold 1 := ⟨sb_TB_isTold, rfl, tb_ix 313 (by decide +kernel) rfl, tb_ix 315 (by decide +kernel) rfl, tb_ix 0 (by decide +kernel) rfl, by decide, rfl⟩
theorem c_TB_133 : tb_SV "TracedBuild" 133 1 m_Lg_deed 1 := ⟨sb_Lg_deed, rfl, tb_ix 321 (by decide +kernel) rfl, tb_ix 322 (by decide +kernel) rfl, tb_ix 323 (by decide +kernel) rfl, by decide, rfl⟩
theorem c_TB_145 : tb_SV "TracedBuild" 145 1 m_Lg_hazardPart 1 := ⟨sb_Lg_hazardPart, rfl, tb_ix 333 (by decide +kernel) rfl, tb_ix 334 (by decide +kernel) rfl, tb_ix 335 (by decide +kernel) rfl, by decide, rfl⟩
theorem c_TB_148 : tb_SV "TracedBuild" 148 4 m_St_length 0 := ⟨sb_St_length, rfl, tb_ix 349 (by decide +kernel) rfl, tb_ix 350 (by decide +kernel) rfl, tb_ix 351 (by decide +kernel) rfl, by decide, rfl⟩
theorem c_TB_152 : tb_SV "TracedBuild" 152 4 m_St_at 1 := ⟨sb_St_at, rfl, tb_ix 772 (by decide +kernel) rfl, tb_ix 773 (by decide +kernel) rfl, tb_ix 774 (by decide +kernel) rfl, by decide, rfl⟩
theorem c_TB_155 : tb_SV "TracedBuild" 155 6 m_Tr_part 1 := ⟨sb_Tr_part, rfl, tb_ix 776 (by decide +kernel) rfl, tb_ix 777 (by decide +kernel) rfl, tb_ix 778 (by decide +kernel) rfl, by decide, rfl⟩
theorem c_TB_160 : tb_SV "TracedBuild" 160 4 m_St_cutTo 1 := ⟨sb_St_cutTo, rfl, tb_ix 357 (by decide +kernel) rfl, tb_ix 358 (by decide +kernel) rfl, tb_ix 359 (by decide +kernel) rfl, by decide, rfl⟩
theorem c_TB_163 : tb_SV "TracedBuild" 163 4 m_St_keepLatest 0 := ⟨sb_St_keepLatest, rfl, tb_ix 365 (by decide +kernel) rfl, tb_ix 366 (by decide +kernel) rfl, tb_ix 367 (by decide +kernel) rfl, by decide, rfl⟩
theorem c_TB_166 : tb_SV "TracedBuild" 166 3 m_Sh_at 2 := ⟨sb_Sh_at, rfl, tb_ix 790 (by decide +kernel) rfl, tb_ix 669 (by decide +kernel) rfl, tb_ix 670 (by decide +kernel) rfl, by decide, rfl⟩
theorem c_TB_169 : tb_SV "TracedBuild" 169 5 m_Tx_isCommand 0 := ⟨sb_Tx_isCommand, rfl, tb_ix 402 (by decide +kernel) rfl, tb_ix 403 (by decide +kernel) rfl, tb_ix 404 (by decide +kernel) rfl, by decide, rfl⟩
theorem c_TB_172 : tb_SV "TracedBuild" 172 2 m_Sc_has 1 := ⟨sb_Sc_has, rfl, tb_ix 317 (by decide +kernel) rfl, tb_ix 318 (by decide +kernel) rfl, tb_ix 319 (by decide +kernel) rfl, by decide, rfl⟩
theorem c_TB_175 : tb_SV "TracedBuild" 175 1 m_Lg_begin 1 := ⟨sb_Lg_begin, rfl, tb_ix 590 (by decide +kernel) rfl, tb_ix 591 (by decide +kernel) rfl, tb_ix 592 (by decide +kernel) rfl, by decide, rfl⟩
theorem c_TB_178 : tb_SV "TracedBuild" 178 0 m_De_isDone 0 := ⟨sb_De_isDone, rfl, tb_ix 599 (by decide +kernel) rfl, tb_ix 600 (by decide +kernel) rfl, tb_ix 601 (by decide +kernel) rfl, by decide, rfl⟩
theorem c_TB_181 : tb_SV "TracedBuild" 181 7 m_TB_perform 2 := ⟨sb_TB_perform, rfl, tb_ix 603 (by decide +kernel) rfl, tb_ix 605 (by decide +kernel) rfl, tb_ix 11 (by decide +kernel) rfl, by decide, rfl⟩
theorem c_TB_185 : tb_SV "TracedBuild" 185 7 m_TB_firstToGoAhead 1 := ⟨sb_TB_firstToGoAhead, rfl, tb_ix 743 (by decide +kernel) rfl, tb_ix 745 (by decide +kernel) rfl, tb_ix 15 (by decide +kernel) rfl, by decide, rfl⟩
theorem c_TB_188 : tb_SV "TracedBuild" 188 7 m_TB_seemsSafeAhead 2 := ⟨sb_TB_seemsSafeAhead, rfl, tb_ix 747 (by decide +kernel) rfl, tb_ix 749 (by decide +kernel) rfl, tb_ix 16 (by decide +kernel) rfl, by decide, rfl⟩
theorem c_TB_192 : tb_SV "TracedBuild" 192 4 m_St_latest 1 := ⟨sb_St_latest, rfl, tb_ix 751 (by decide +kernel) rfl, tb_ix 637 (by decide +kernel) rfl, tb_ix 638 (by decide +kernel) rfl, by decide, rfl⟩
theorem c_TB_196 : tb_SV "TracedBuild" 196 6 m_Tr_isInTheWayOf 1 := ⟨sb_Tr_isInTheWayOf, rfl, tb_ix 752 (by decide +kernel) rfl, tb_ix 753 (by decide +kernel) rfl, tb_ix 754 (by decide +kernel) rfl, by decide, rfl⟩
theorem c_TB_200 : tb_SV "TracedBuild" 200 3 m_Sh_thoseThere 0 := ⟨sb_Sh_thoseThere, rfl, tb_ix 607 (by decide +kernel) rfl, tb_ix 608 (by decide +kernel) rfl, tb_ix 609 (by decide +kernel) rfl, by decide, rfl⟩
theorem c_TB_203 : tb_SV "TracedBuild" 203 4 m_St_fitting 2 := ⟨sb_St_fitting, rfl, tb_ix 611 (by decide +kernel) rfl, tb_ix 612 (by decide +kernel) rfl, tb_ix 613 (by decide +kernel) rfl, by decide, rfl⟩
theorem c_TB_207 : tb_SV "TracedBuild" 207 4 m_St_reasonToRun 2 := ⟨sb_St_reasonToRun, rfl, tb_ix 632 (by decide +kernel) rfl, tb_ix 633 (by decide +kernel) rfl, tb_ix 634 (by decide +kernel) rfl, by decide, rfl⟩
theorem c_TB_211 : tb_SV "TracedBuild" 211 4 m_St_append 0 := ⟨sb_St_append, rfl, tb_ix 645 (by decide +kernel) rfl, tb_ix 646 (by decide +kernel) rfl, tb_ix 647 (by decide +kernel) rfl, by decide, rfl⟩
theorem c_TB_214 : tb_SS "TracedBuild" 214 m_Cr_work 3 := ⟨sb_Cr_work, tb_ix 649 (by decide +kernel) rfl, tb_ix 650 (by decide +kernel) rfl⟩
theorem c_TB_220 : tb_SV "TracedBuild" 220 6 m_Tr_putBack 1 := ⟨sb_Tr_putBack, rfl, tb_ix 708 (by decide +kernel) rfl, tb_ix 709 (by decide +kernel) rfl, tb_ix 710 (by decide +kernel) rfl, by decide, rfl⟩
theorem c_TB_224 : tb_SV "TracedBuild" 224 0 m_De_keepOutcome 3 := ⟨sb_De_keepOutcome, rfl, tb_ix 713 (by decide +kernel) rfl, tb_ix 714 (by decide +kernel) rfl, tb_ix 715 (by decide +kernel) rfl, by decide, rfl⟩
theorem c_TB_228 : tb_SV "TracedBuild" 228 0 m_De_keepTraced 2 := ⟨sb_De_keepTraced, rfl, tb_ix 717 (by decide +kernel) rfl, tb_ix 718 (by decide +kernel) rfl, tb_ix 719 (by decide +kernel) rfl, by decide, rfl⟩
theorem c_TB_232 : tb_SV "TracedBuild" 232 1 m_Lg_lookForHazard 1 := ⟨sb_Lg_lookForHazard, rfl, tb_ix 725 (by decide +kernel) rfl, tb_ix 726 (by decide +kernel) rfl, tb_ix 727 (by decide +kernel) rfl, by decide, rfl⟩
theorem c_Mo_96 : tb_SS "TracedBuildModel" 96 m_Mo_isFile 1 := ⟨sb_Mo_isFile, tb_ix 939 (by decide +kernel) rfl, tb_ix 940 (by decide +kernel) rfl⟩
theorem c_Mo_100 : tb_SV "TracedBuildModel" 100 8 m_Mo_fileAt 1 := ⟨sb_Mo_fileAt, rfl, tb_ix 935 (by decide +kernel) rfl, tb_ix 937 (by decide +kernel) rfl, tb_ix 19 (by decide +kernel) rfl, by decide, rfl⟩
theorem c_Mo_104 : tb_SV "TracedBuildModel" 104 8 m_Mo_files 2 := ⟨sb_Mo_files, rfl, tb_ix 942 (by decide +kernel) rfl, tb_ix 944 (by decide +kernel) rfl, tb_ix 20 (by decide +kernel) rfl, by decide, rfl⟩
theorem c_Mo_108 : tb_SV "TracedBuildModel" 108 8 m_Mo_isDigit 1 := ⟨sb_Mo_isDigit, rfl, tb_ix 946 (by decide +kernel) rfl, tb_ix 948 (by decide +kernel) rfl, tb_ix 21 (by decide +kernel) rfl, by decide, rfl⟩
theorem c_Mo_111 : tb_SV "TracedBuildModel" 111 8 m_Mo_digitsAndFile 1 := ⟨sb_Mo_digitsAndFile, rfl, tb_ix 950 (by decide +kernel) rfl, tb_ix 952 (by decide +kernel) rfl, tb_ix 22 (by decide +kernel) rfl, by decide, rfl⟩
theorem c_Mo_118 : tb_SV "TracedBuildModel" 118 8 m_Mo_isCommand 0 := ⟨sb_Mo_isCommand, rfl, tb_ix 931 (by decide +kernel) rfl, tb_ix 933 (by decide +kernel) rfl, tb_ix 18 (by decide +kernel) rfl, by decide, rfl⟩
theorem c_Mo_122 : tb_SV "TracedBuildModel" 122 8 m_Mo_fail 1 := ⟨sb_Mo_fail, rfl, tb_ix 954 (by decide +kernel) rfl, tb_ix 956 (by decide +kernel) rfl, tb_ix 23 (by decide +kernel) rfl, by decide, rfl⟩
theorem c_Mo_128 : tb_SV "TracedBuildModel" 128 8 m_Mo_keep 1 := ⟨sb_Mo_keep, rfl, tb_ix 958 (by decide +kernel) rfl, tb_ix 960 (by decide +kernel) rfl, tb_ix 24 (by decide +kernel) rfl, by decide, rfl⟩
theorem c_Mo_138 : tb_SV "TracedBuildModel" 138 8 m_Mo_readFile 1 := ⟨sb_Mo_readFile, rfl, tb_ix 1030 (by decide +kernel) rfl, tb_ix 1032 (by decide +kernel) rfl, tb_ix 36 (by decide +kernel) rfl, by decide, rfl⟩
theorem c_Mo_141 : tb_SV "TracedBuildModel" 141 8 m_Mo_add 1 := ⟨sb_Mo_add, rfl, tb_ix 1038 (by decide +kernel) rfl, tb_ix 1040 (by decide +kernel) rfl, tb_ix 38 (by decide +kernel) rfl, by decide, rfl⟩
theorem c_Mo_150 : tb_SV "TracedBuildModel" 150 8 m_Mo_letter 2 := ⟨sb_Mo_letter, rfl, tb_ix 1026 (by decide +kernel) rfl, tb_ix 1028 (by decide +kernel) rfl, tb_ix 35 (by decide +kernel) rfl, by decide, rfl⟩
theorem c_Mo_154 : tb_SV "TracedBuildModel" 154 8 m_Mo_addAll 2 := ⟨sb_Mo_addAll, rfl, tb_ix 1034 (by decide +kernel) rfl, tb_ix 1036 (by decide +kernel) rfl, tb_ix 37 (by decide +kernel) rfl, by decide, rfl⟩
theorem c_Mo_158 : tb_SV "TracedBuildModel" 158 8 m_Mo_join 2 := ⟨sb_Mo_join, rfl, tb_ix 1042 (by decide +kernel) rfl, tb_ix 1044 (by decide +kernel) rfl, tb_ix 39 (by decide +kernel) rfl, by decide, rfl⟩
theorem c_Mo_161 : tb_SV "TracedBuildModel" 161 8 m_Mo_sums 2 := ⟨sb_Mo_sums, rfl, tb_ix 1046 (by decide +kernel) rfl, tb_ix 1048 (by decide +kernel) rfl, tb_ix 40 (by decide +kernel) rfl, by decide, rfl⟩
theorem c_Mo_164 : tb_SV "TracedBuildModel" 164 8 m_Mo_sort 0 := ⟨sb_Mo_sort, rfl, tb_ix 1050 (by decide +kernel) rfl, tb_ix 1052 (by decide +kernel) rfl, tb_ix 41 (by decide +kernel) rfl, by decide, rfl⟩
theorem c_Mo_167 : tb_SV "TracedBuildModel" 167 8 m_Mo_digits 2 := ⟨sb_Mo_digits, rfl, tb_ix 1054 (by decide +kernel) rfl, tb_ix 1056 (by decide +kernel) rfl, tb_ix 42 (by decide +kernel) rfl, by decide, rfl⟩
theorem c_Mo_170 : tb_SV "TracedBuildModel" 170 8 m_Mo_ask 1 := ⟨sb_Mo_ask, rfl, tb_ix 1058 (by decide +kernel) rfl, tb_ix 1060 (by decide +kernel) rfl, tb_ix 43 (by decide +kernel) rfl, by decide, rfl⟩
theorem c_Mo_173 : tb_SV "TracedBuildModel" 173 8 m_Mo_there 1 := ⟨sb_Mo_there, rfl, tb_ix 1062 (by decide +kernel) rfl, tb_ix 1064 (by decide +kernel) rfl, tb_ix 44 (by decide +kernel) rfl, by decide, rfl⟩
theorem c_Mo_179 : tb_SV "TracedBuildModel" 179 8 m_Mo_isOf 2 := ⟨sb_Mo_isOf, rfl, tb_ix 1002 (by decide +kernel) rfl, tb_ix 1004 (by decide +kernel) rfl, tb_ix 29 (by decide +kernel) rfl, by decide, rfl⟩
theorem c_Mo_182 : tb_SV "TracedBuildModel" 182 8 m_Mo_isAsRead 2 := ⟨sb_Mo_isAsRead, rfl, tb_ix 1010 (by decide +kernel) rfl, tb_ix 1012 (by decide +kernel) rfl, tb_ix 31 (by decide +kernel) rfl, by decide, rfl⟩
theorem c_Mo_185 : tb_SV "TracedBuildModel" 185 8 m_Mo_changedFor 1 := ⟨sb_Mo_changedFor, rfl, tb_ix 1006 (by decide +kernel) rfl, tb_ix 1008 (by decide +kernel) rfl, tb_ix 30 (by decide +kernel) rfl, by decide, rfl⟩
theorem c_Mo_188 : tb_SV "TracedBuildModel" 188 8 m_Mo_copyTrace 2 := ⟨sb_Mo_copyTrace, rfl, tb_ix 1070 (by decide +kernel) rfl, tb_ix 1072 (by decide +kernel) rfl, tb_ix 46 (by decide +kernel) rfl, by decide, rfl⟩
theorem c_Mo_191 : tb_SV "TracedBuildModel" 191 8 m_Mo_fitting 1 := ⟨sb_Mo_fitting, rfl, tb_ix 998 (by decide +kernel) rfl, tb_ix 1000 (by decide +kernel) rfl, tb_ix 28 (by decide +kernel) rfl, by decide, rfl⟩
theorem c_Mo_194 : tb_SV "TracedBuildModel" 194 8 m_Mo_isWritten 1 := ⟨sb_Mo_isWritten, rfl, tb_ix 1014 (by decide +kernel) rfl, tb_ix 1016 (by decide +kernel) rfl, tb_ix 32 (by decide +kernel) rfl, by decide, rfl⟩
theorem c_Mo_197 : tb_SV "TracedBuildModel" 197 8 m_Mo_latestOf 1 := ⟨sb_Mo_latestOf, rfl, tb_ix 1018 (by decide +kernel) rfl, tb_ix 1020 (by decide +kernel) rfl, tb_ix 33 (by decide +kernel) rfl, by decide, rfl⟩
theorem c_Mo_200 : tb_SV "TracedBuildModel" 200 8 m_Mo_work 1 := ⟨sb_Mo_work, rfl, tb_ix 1022 (by decide +kernel) rfl, tb_ix 1024 (by decide +kernel) rfl, tb_ix 34 (by decide +kernel) rfl, by decide, rfl⟩
theorem c_Mo_203 : tb_SV "TracedBuildModel" 203 8 m_Mo_record 1 := ⟨sb_Mo_record, rfl, tb_ix 1066 (by decide +kernel) rfl, tb_ix 1068 (by decide +kernel) rfl, tb_ix 45 (by decide +kernel) rfl, by decide, rfl⟩
theorem c_Mo_206 : tb_SV "TracedBuildModel" 206 8 m_Mo_write 1 := ⟨sb_Mo_write, rfl, tb_ix 1074 (by decide +kernel) rfl, tb_ix 1076 (by decide +kernel) rfl, tb_ix 47 (by decide +kernel) rfl, by decide, rfl⟩
theorem c_Mo_209 : tb_SV "TracedBuildModel" 209 8 m_Mo_meets 2 := ⟨sb_Mo_meets, rfl, tb_ix 1090 (by decide +kernel) rfl, tb_ix 1092 (by decide +kernel) rfl, tb_ix 51 (by decide +kernel) rfl, by decide, rfl⟩
theorem c_Mo_212 : tb_SV "TracedBuildModel" 212 8 m_Mo_isHazardOf 2 := ⟨sb_Mo_isHazardOf, rfl, tb_ix 1082 (by decide +kernel) rfl, tb_ix 1084 (by decide +kernel) rfl, tb_ix 49 (by decide +kernel) rfl, by decide, rfl⟩
theorem c_Mo_216 : tb_SV "TracedBuildModel" 216 8 m_Mo_kindOf 2 := ⟨sb_Mo_kindOf, rfl, tb_ix 1086 (by decide +kernel) rfl, tb_ix 1088 (by decide +kernel) rfl, tb_ix 50 (by decide +kernel) rfl, by decide, rfl⟩
theorem c_Mo_231 : tb_SV "TracedBuildModel" 231 8 m_Mo_apart 2 := ⟨sb_Mo_apart, rfl, tb_ix 1102 (by decide +kernel) rfl, tb_ix 1104 (by decide +kernel) rfl, tb_ix 54 (by decide +kernel) rfl, by decide, rfl⟩
theorem c_Mo_234 : tb_SV "TracedBuildModel" 234 8 m_Mo_perform 2 := ⟨sb_Mo_perform, rfl, tb_ix 994 (by decide +kernel) rfl, tb_ix 996 (by decide +kernel) rfl, tb_ix 27 (by decide +kernel) rfl, by decide, rfl⟩
theorem c_Mo_238 : tb_SV "TracedBuildModel" 238 8 m_Mo_isHazard 1 := ⟨sb_Mo_isHazard, rfl, tb_ix 1078 (by decide +kernel) rfl, tb_ix 1080 (by decide +kernel) rfl, tb_ix 48 (by decide +kernel) rfl, by decide, rfl⟩
theorem c_Mo_241 : tb_SV "TracedBuildModel" 241 8 m_Mo_tryAhead 2 := ⟨sb_Mo_tryAhead, rfl, tb_ix 1094 (by decide +kernel) rfl, tb_ix 1096 (by decide +kernel) rfl, tb_ix 52 (by decide +kernel) rfl, by decide, rfl⟩
theorem c_Mo_244 : tb_SV "TracedBuildModel" 244 8 m_Mo_isSafe 2 := ⟨sb_Mo_isSafe, rfl, tb_ix 1098 (by decide +kernel) rfl, tb_ix 1100 (by decide +kernel) rfl, tb_ix 53 (by decide +kernel) rfl, by decide, rfl⟩
theorem c_Mo_247 : tb_SV "TracedBuildModel" 247 8 m_Mo_save 1 := ⟨sb_Mo_save, rfl, tb_ix 986 (by decide +kernel) rfl, tb_ix 988 (by decide +kernel) rfl, tb_ix 25 (by decide +kernel) rfl, by decide, rfl⟩
theorem c_Mo_251 : tb_SV "TracedBuildModel" 251 8 m_Mo_attempt 1 := ⟨sb_Mo_attempt, rfl, tb_ix 990 (by decide +kernel) rfl, tb_ix 992 (by decide +kernel) rfl, tb_ix 26 (by decide +kernel) rfl, by decide, rfl⟩
theorem c_Mo_257 : tb_SV "TracedBuildModel" 257 8 m_Mo_wasRun 1 := ⟨sb_Mo_wasRun, rfl, tb_ix 1110 (by decide +kernel) rfl, tb_ix 1112 (by decide +kernel) rfl, tb_ix 55 (by decide +kernel) rfl, by decide, rfl⟩
theorem c_Mo_260 : tb_SV "TracedBuildModel" 260 8 m_Mo_sameText 2 := ⟨sb_Mo_sameText, rfl, tb_ix 1142 (by decide +kernel) rfl, tb_ix 1144 (by decide +kernel) rfl, tb_ix 56 (by decide +kernel) rfl, by decide, rfl⟩
theorem c_Cr_9 : tb_SV "TracedBuild$Craft" 9 6 m_Tr_begin 2 := ⟨sb_Tr_begin, rfl, tb_ix 652 (by decide +kernel) rfl, tb_ix 653 (by decide +kernel) rfl, tb_ix 654 (by decide +kernel) rfl, by decide, rfl⟩
theorem c_Cr_15 : tb_SV "TracedBuild$Craft" 15 5 m_Tx_length 0 := ⟨sb_Tx_length, rfl, tb_ix 658 (by decide +kernel) rfl, tb_ix 659 (by decide +kernel) rfl, tb_ix 660 (by decide +kernel) rfl, by decide, rfl⟩
theorem c_Cr_21 : tb_SV "TracedBuild$Craft" 21 5 m_Tx_at 1 := ⟨sb_Tx_at, rfl, tb_ix 662 (by decide +kernel) rfl, tb_ix 407 (by decide +kernel) rfl, tb_ix 408 (by decide +kernel) rfl, by decide, rfl⟩
theorem c_Cr_25 : tb_SS "TracedBuild$Craft" 25 m_Cr_read 2 := ⟨sb_Cr_read, tb_ix 663 (by decide +kernel) rfl, tb_ix 664 (by decide +kernel) rfl⟩
theorem c_Cr_35 : tb_SV "TracedBuild$Craft" 35 3 m_Sh_length 1 := ⟨sb_Sh_length, rfl, tb_ix 667 (by decide +kernel) rfl, tb_ix 293 (by decide +kernel) rfl, tb_ix 294 (by decide +kernel) rfl, by decide, rfl⟩
theorem c_Cr_40 : tb_SV "TracedBuild$Craft" 40 3 m_Sh_at 2 := ⟨sb_Sh_at, rfl, tb_ix 668 (by decide +kernel) rfl, tb_ix 669 (by decide +kernel) rfl, tb_ix 670 (by decide +kernel) rfl, by decide, rfl⟩
theorem c_Cr_43 : tb_SS "TracedBuild$Craft" 43 m_Cr_workPlain 2 := ⟨sb_Cr_workPlain, tb_ix 672 (by decide +kernel) rfl, tb_ix 673 (by decide +kernel) rfl⟩
theorem c_Cr_51 : tb_SV "TracedBuild$Craft" 51 5 m_Tx_fileAt 1 := ⟨sb_Tx_fileAt, rfl, tb_ix 666 (by decide +kernel) rfl, tb_ix 411 (by decide +kernel) rfl, tb_ix 412 (by decide +kernel) rfl, by decide, rfl⟩
theorem c_Cr_58 : tb_SV "TracedBuild$Craft" 58 3 m_Sh_makeEmpty 1 := ⟨sb_Sh_makeEmpty, rfl, tb_ix 675 (by decide +kernel) rfl, tb_ix 676 (by decide +kernel) rfl, tb_ix 677 (by decide +kernel) rfl, by decide, rfl⟩
theorem c_Cr_62 : tb_SS "TracedBuild$Craft" 62 m_Cr_copy 2 := ⟨sb_Cr_copy, tb_ix 679 (by decide +kernel) rfl, tb_ix 680 (by decide +kernel) rfl⟩
theorem c_Cr_65 : tb_SS "TracedBuild$Craft" 65 m_Cr_sum 3 := ⟨sb_Cr_sum, tb_ix 683 (by decide +kernel) rfl, tb_ix 684 (by decide +kernel) rfl⟩
theorem c_Cr_69 : tb_SV "TracedBuild$Craft" 69 3 m_Sh_sort 1 := ⟨sb_Sh_sort, rfl, tb_ix 689 (by decide +kernel) rfl, tb_ix 690 (by decide +kernel) rfl, tb_ix 691 (by decide +kernel) rfl, by decide, rfl⟩
theorem c_Cr_72 : tb_SV "TracedBuild$Craft" 72 5 m_Tx_digitAt 1 := ⟨sb_Tx_digitAt, rfl, tb_ix 693 (by decide +kernel) rfl, tb_ix 423 (by decide +kernel) rfl, tb_ix 424 (by decide +kernel) rfl, by decide, rfl⟩
theorem c_Cr_75 : tb_SS "TracedBuild$Craft" 75 m_Cr_copyDivided 3 := ⟨sb_Cr_copyDivided, tb_ix 694 (by decide +kernel) rfl, tb_ix 695 (by decide +kernel) rfl⟩
theorem c_Cr_78 : tb_SS "TracedBuild$Craft" 78 m_Cr_copyDigits 2 := ⟨sb_Cr_copyDigits, tb_ix 697 (by decide +kernel) rfl, tb_ix 698 (by decide +kernel) rfl⟩
theorem c_Cr_81 : tb_SS "TracedBuild$Craft" 81 m_Cr_tellIfThere 2 := ⟨sb_Cr_tellIfThere, tb_ix 700 (by decide +kernel) rfl, tb_ix 701 (by decide +kernel) rfl⟩
theorem c_Cr_84 : tb_SS "TracedBuild$Craft" 84 m_Cr_listFiles 1 := ⟨sb_Cr_listFiles, tb_ix 704 (by decide +kernel) rfl, tb_ix 705 (by decide +kernel) rfl⟩
theorem c_Cr_88 : tb_SV "TracedBuild$Craft" 88 3 m_Sh_takeAway 1 := ⟨sb_Sh_takeAway, rfl, tb_ix 707 (by decide +kernel) rfl, tb_ix 306 (by decide +kernel) rfl, tb_ix 307 (by decide +kernel) rfl, by decide, rfl⟩
theorem c_Cr_93 : tb_SV "TracedBuild$Craft" 93 3 m_Sh_append 2 := ⟨sb_Sh_append, rfl, tb_ix 682 (by decide +kernel) rfl, tb_ix 289 (by decide +kernel) rfl, tb_ix 290 (by decide +kernel) rfl, by decide, rfl⟩
-- TracedBuild$Craft 97 calls ('java/lang/Math', 'min', '(II)I')
theorem c_Cr_106 : tb_SV "TracedBuild$Craft" 106 3 m_Sh_isThere 1 := ⟨sb_Sh_isThere, rfl, tb_ix 703 (by decide +kernel) rfl, tb_ix 302 (by decide +kernel) rfl, tb_ix 303 (by decide +kernel) rfl, by decide, rfl⟩
theorem c_La_7 : tb_SV "TracedBuildLaw" 7 7 m_TB_command 0 := ⟨sb_TB_command, rfl, tb_ix 394 (by decide +kernel) rfl, tb_ix 395 (by decide +kernel) rfl, tb_ix 396 (by decide +kernel) rfl, by decide, rfl⟩
theorem c_La_17 : tb_SV "TracedBuildLaw" 17 7 m_TB_edit 1 := ⟨sb_TB_edit, rfl, tb_ix 532 (by decide +kernel) rfl, tb_ix 533 (by decide +kernel) rfl, tb_ix 534 (by decide +kernel) rfl, by decide, rfl⟩
theorem c_La_23 : tb_SV "TracedBuildLaw" 23 7 m_TB_drop 1 := ⟨sb_TB_drop, rfl, tb_ix 563 (by decide +kernel) rfl, tb_ix 564 (by decide +kernel) rfl, tb_ix 565 (by decide +kernel) rfl, by decide, rfl⟩
theorem c_La_26 : tb_SV "TracedBuildLaw" 26 7 m_TB_run 1 := ⟨sb_TB_run, rfl, tb_ix 574 (by decide +kernel) rfl, tb_ix 575 (by decide +kernel) rfl, tb_ix 576 (by decide +kernel) rfl, by decide, rfl⟩
theorem c_La_30 : tb_SV "TracedBuildLaw" 30 7 m_TB_trace 2 := ⟨sb_TB_trace, rfl, tb_ix 768 (by decide +kernel) rfl, tb_ix 769 (by decide +kernel) rfl, tb_ix 770 (by decide +kernel) rfl, by decide, rfl⟩
theorem c_La_34 : tb_SV "TracedBuildLaw" 34 7 m_TB_number 2 := ⟨sb_TB_number, rfl, tb_ix 786 (by decide +kernel) rfl, tb_ix 787 (by decide +kernel) rfl, tb_ix 788 (by decide +kernel) rfl, by decide, rfl⟩
theorem c_La_38 : tb_SI "TracedBuildLaw" 38 m_TB_init 0 := ⟨sb_TB_init, rfl, rfl, rfl, tb_ix 77 (by decide +kernel) rfl, tb_ix 78 (by decide +kernel) rfl⟩
theorem c_La_41 : tb_SI "TracedBuildLaw" 41 m_Mo_init 0 := ⟨sb_Mo_init, rfl, rfl, rfl, tb_ix 793 (by decide +kernel) rfl, tb_ix 794 (by decide +kernel) rfl⟩
theorem c_La_42 : tb_SV "TracedBuildLaw" 42 7 m_TB_type 1 := ⟨sb_TB_type, rfl, tb_ix 265 (by decide +kernel) rfl, tb_ix 266 (by decide +kernel) rfl, tb_ix 267 (by decide +kernel) rfl, by decide, rfl⟩
theorem c_La_46 : tb_SV "TracedBuildLaw" 46 8 m_Mo_type 1 := ⟨sb_Mo_type, rfl, tb_ix 923 (by decide +kernel) rfl, tb_ix 924 (by decide +kernel) rfl, tb_ix 925 (by decide +kernel) rfl, by decide, rfl⟩
theorem c_La_47 : tb_SS "TracedBuildLaw" 47 m_La_command 2 := ⟨sb_La_command, tb_ix 389 (by decide +kernel) rfl, tb_ix 390 (by decide +kernel) rfl⟩
theorem c_La_52 : tb_SV "TracedBuildLaw" 52 8 m_Mo_command 0 := ⟨sb_Mo_command, rfl, tb_ix 927 (by decide +kernel) rfl, tb_ix 928 (by decide +kernel) rfl, tb_ix 929 (by decide +kernel) rfl, by decide, rfl⟩
theorem c_La_53 : tb_SV "TracedBuildLaw" 53 8 m_Mo_thrown 0 := ⟨sb_Mo_thrown, rfl, tb_ix 919 (by decide +kernel) rfl, tb_ix 920 (by decide +kernel) rfl, tb_ix 921 (by decide +kernel) rfl, by decide, rfl⟩
theorem c_La_56 : tb_SS "TracedBuildLaw" 56 m_La_edit 2 := ⟨sb_La_edit, tb_ix 528 (by decide +kernel) rfl, tb_ix 529 (by decide +kernel) rfl⟩
theorem c_La_59 : tb_SV "TracedBuildLaw" 59 8 m_Mo_edit 1 := ⟨sb_Mo_edit, rfl, tb_ix 962 (by decide +kernel) rfl, tb_ix 963 (by decide +kernel) rfl, tb_ix 964 (by decide +kernel) rfl, by decide, rfl⟩
theorem c_La_60 : tb_SS "TracedBuildLaw" 60 m_La_drop 2 := ⟨sb_La_drop, tb_ix 560 (by decide +kernel) rfl, tb_ix 561 (by decide +kernel) rfl⟩
theorem c_La_62 : tb_SV "TracedBuildLaw" 62 8 m_Mo_drop 1 := ⟨sb_Mo_drop, rfl, tb_ix 966 (by decide +kernel) rfl, tb_ix 967 (by decide +kernel) rfl, tb_ix 968 (by decide +kernel) rfl, by decide, rfl⟩
theorem c_La_63 : tb_SV "TracedBuildLaw" 63 7 m_TB_commands 0 := ⟨sb_TB_commands, rfl, tb_ix 273 (by decide +kernel) rfl, tb_ix 274 (by decide +kernel) rfl, tb_ix 275 (by decide +kernel) rfl, by decide, rfl⟩
theorem c_La_66 : tb_SV "TracedBuildLaw" 66 8 m_Mo_commands 0 := ⟨sb_Mo_commands, rfl, tb_ix 970 (by decide +kernel) rfl, tb_ix 971 (by decide +kernel) rfl, tb_ix 972 (by decide +kernel) rfl, by decide, rfl⟩
theorem c_La_67 : tb_SV "TracedBuildLaw" 67 7 m_TB_put 2 := ⟨sb_TB_put, rfl, tb_ix 281 (by decide +kernel) rfl, tb_ix 282 (by decide +kernel) rfl, tb_ix 283 (by decide +kernel) rfl, by decide, rfl⟩
theorem c_La_71 : tb_SV "TracedBuildLaw" 71 8 m_Mo_put 2 := ⟨sb_Mo_put, rfl, tb_ix 974 (by decide +kernel) rfl, tb_ix 975 (by decide +kernel) rfl, tb_ix 976 (by decide +kernel) rfl, by decide, rfl⟩
theorem c_La_72 : tb_SV "TracedBuildLaw" 72 7 m_TB_remove 1 := ⟨sb_TB_remove, rfl, tb_ix 297 (by decide +kernel) rfl, tb_ix 298 (by decide +kernel) rfl, tb_ix 299 (by decide +kernel) rfl, by decide, rfl⟩
theorem c_La_76 : tb_SV "TracedBuildLaw" 76 8 m_Mo_remove 1 := ⟨sb_Mo_remove, rfl, tb_ix 978 (by decide +kernel) rfl, tb_ix 979 (by decide +kernel) rfl, tb_ix 980 (by decide +kernel) rfl, by decide, rfl⟩
theorem c_La_77 : tb_SS "TracedBuildLaw" 77 m_La_run 3 := ⟨sb_La_run, tb_ix 571 (by decide +kernel) rfl, tb_ix 572 (by decide +kernel) rfl⟩
theorem c_La_80 : tb_SV "TracedBuildLaw" 80 8 m_Mo_run 1 := ⟨sb_Mo_run, rfl, tb_ix 982 (by decide +kernel) rfl, tb_ix 983 (by decide +kernel) rfl, tb_ix 984 (by decide +kernel) rfl, by decide, rfl⟩
theorem c_La_81 : tb_SV "TracedBuildLaw" 81 7 m_TB_did 1 := ⟨sb_TB_did, rfl, tb_ix 309 (by decide +kernel) rfl, tb_ix 310 (by decide +kernel) rfl, tb_ix 311 (by decide +kernel) rfl, by decide, rfl⟩
theorem c_La_84 : tb_SV "TracedBuildLaw" 84 8 m_Mo_did 1 := ⟨sb_Mo_did, rfl, tb_ix 1106 (by decide +kernel) rfl, tb_ix 1107 (by decide +kernel) rfl, tb_ix 1108 (by decide +kernel) rfl, by decide, rfl⟩
theorem c_La_85 : tb_SV "TracedBuildLaw" 85 7 m_TB_why 1 := ⟨sb_TB_why, rfl, tb_ix 325 (by decide +kernel) rfl, tb_ix 326 (by decide +kernel) rfl, tb_ix 327 (by decide +kernel) rfl, by decide, rfl⟩
theorem c_La_88 : tb_SV "TracedBuildLaw" 88 8 m_Mo_why 1 := ⟨sb_Mo_why, rfl, tb_ix 1114 (by decide +kernel) rfl, tb_ix 1115 (by decide +kernel) rfl, tb_ix 1116 (by decide +kernel) rfl, by decide, rfl⟩
theorem c_La_89 : tb_SV "TracedBuildLaw" 89 7 m_TB_hazard 1 := ⟨sb_TB_hazard, rfl, tb_ix 329 (by decide +kernel) rfl, tb_ix 330 (by decide +kernel) rfl, tb_ix 331 (by decide +kernel) rfl, by decide, rfl⟩
theorem c_La_92 : tb_SV "TracedBuildLaw" 92 8 m_Mo_hazard 1 := ⟨sb_Mo_hazard, rfl, tb_ix 1118 (by decide +kernel) rfl, tb_ix 1119 (by decide +kernel) rfl, tb_ix 1120 (by decide +kernel) rfl, by decide, rfl⟩
theorem c_La_93 : tb_SV "TracedBuildLaw" 93 7 m_TB_again 0 := ⟨sb_TB_again, rfl, tb_ix 341 (by decide +kernel) rfl, tb_ix 342 (by decide +kernel) rfl, tb_ix 343 (by decide +kernel) rfl, by decide, rfl⟩
theorem c_La_96 : tb_SV "TracedBuildLaw" 96 8 m_Mo_again 0 := ⟨sb_Mo_again, rfl, tb_ix 1122 (by decide +kernel) rfl, tb_ix 1123 (by decide +kernel) rfl, tb_ix 1124 (by decide +kernel) rfl, by decide, rfl⟩
theorem c_La_97 : tb_SV "TracedBuildLaw" 97 7 m_TB_traces 0 := ⟨sb_TB_traces, rfl, tb_ix 345 (by decide +kernel) rfl, tb_ix 346 (by decide +kernel) rfl, tb_ix 347 (by decide +kernel) rfl, by decide, rfl⟩
theorem c_La_100 : tb_SV "TracedBuildLaw" 100 8 m_Mo_traces 0 := ⟨sb_Mo_traces, rfl, tb_ix 1126 (by decide +kernel) rfl, tb_ix 1127 (by decide +kernel) rfl, tb_ix 1128 (by decide +kernel) rfl, by decide, rfl⟩
theorem c_La_101 : tb_SS "TracedBuildLaw" 101 m_La_trace 4 := ⟨sb_La_trace, tb_ix 765 (by decide +kernel) rfl, tb_ix 766 (by decide +kernel) rfl⟩
theorem c_La_104 : tb_SV "TracedBuildLaw" 104 8 m_Mo_trace 2 := ⟨sb_Mo_trace, rfl, tb_ix 1130 (by decide +kernel) rfl, tb_ix 1131 (by decide +kernel) rfl, tb_ix 1132 (by decide +kernel) rfl, by decide, rfl⟩
theorem c_La_105 : tb_SV "TracedBuildLaw" 105 7 m_TB_tear 1 := ⟨sb_TB_tear, rfl, tb_ix 353 (by decide +kernel) rfl, tb_ix 354 (by decide +kernel) rfl, tb_ix 355 (by decide +kernel) rfl, by decide, rfl⟩
theorem c_La_108 : tb_SV "TracedBuildLaw" 108 8 m_Mo_tear 1 := ⟨sb_Mo_tear, rfl, tb_ix 1134 (by decide +kernel) rfl, tb_ix 1135 (by decide +kernel) rfl, tb_ix 1136 (by decide +kernel) rfl, by decide, rfl⟩
theorem c_La_109 : tb_SV "TracedBuildLaw" 109 7 m_TB_compact 0 := ⟨sb_TB_compact, rfl, tb_ix 361 (by decide +kernel) rfl, tb_ix 362 (by decide +kernel) rfl, tb_ix 363 (by decide +kernel) rfl, by decide, rfl⟩
theorem c_La_112 : tb_SV "TracedBuildLaw" 112 8 m_Mo_compact 0 := ⟨sb_Mo_compact, rfl, tb_ix 1138 (by decide +kernel) rfl, tb_ix 1139 (by decide +kernel) rfl, tb_ix 1140 (by decide +kernel) rfl, by decide, rfl⟩
theorem c_La_113 : tb_SV "TracedBuildLaw" 113 7 m_TB_size 1 := ⟨sb_TB_size, rfl, tb_ix 385 (by decide +kernel) rfl, tb_ix 386 (by decide +kernel) rfl, tb_ix 387 (by decide +kernel) rfl, by decide, rfl⟩
theorem c_La_116 : tb_SV "TracedBuildLaw" 116 8 m_Mo_size 1 := ⟨sb_Mo_size, rfl, tb_ix 1146 (by decide +kernel) rfl, tb_ix 1147 (by decide +kernel) rfl, tb_ix 1148 (by decide +kernel) rfl, by decide, rfl⟩
theorem c_La_117 : tb_SS "TracedBuildLaw" 117 m_La_number 4 := ⟨sb_La_number, tb_ix 783 (by decide +kernel) rfl, tb_ix 784 (by decide +kernel) rfl⟩
theorem c_La_119 : tb_SV "TracedBuildLaw" 119 8 m_Mo_number 2 := ⟨sb_Mo_number, rfl, tb_ix 1150 (by decide +kernel) rfl, tb_ix 1151 (by decide +kernel) rfl, tb_ix 1152 (by decide +kernel) rfl, by decide, rfl⟩
end
section
/-! Rows that decode: laid by program. -/
theorem d_De_init_0 : decode m_De_init.2.1 0 = .ok (.aload_n 0, 1) := by decide +kernel
theorem d_De_init_1 : decode m_De_init.2.1 1 = .ok (.invokespecial 3, 3) := by decide +kernel
theorem d_De_init_4 : decode m_De_init.2.1 4 = .ok (.return_, 1) := by decide +kernel
theorem d_De_forget_0 : decode m_De_forget.2.1 0 = .ok (.aload_n 0, 1) := by decide +kernel
theorem d_De_forget_1 : decode m_De_forget.2.1 1 = .ok (.iconst 0, 1) := by decide +kernel
theorem d_De_forget_2 : decode m_De_forget.2.1 2 = .ok (.putfield 9, 3) := by decide +kernel
theorem d_De_forget_5 : decode m_De_forget.2.1 5 = .ok (.aload_n 0, 1) := by decide +kernel
theorem d_De_forget_6 : decode m_De_forget.2.1 6 = .ok (.iconst (-1), 1) := by decide +kernel
theorem d_De_forget_7 : decode m_De_forget.2.1 7 = .ok (.putfield 15, 3) := by decide +kernel
theorem d_De_forget_10 : decode m_De_forget.2.1 10 = .ok (.aload_n 0, 1) := by decide +kernel
theorem d_De_forget_11 : decode m_De_forget.2.1 11 = .ok (.iconst 0, 1) := by decide +kernel
theorem d_De_forget_12 : decode m_De_forget.2.1 12 = .ok (.putfield 18, 3) := by decide +kernel
theorem d_De_forget_15 : decode m_De_forget.2.1 15 = .ok (.return_, 1) := by decide +kernel
theorem d_De_isDone_0 : decode m_De_isDone.2.1 0 = .ok (.aload_n 0, 1) := by decide +kernel
theorem d_De_isDone_1 : decode m_De_isDone.2.1 1 = .ok (.getfield 9, 3) := by decide +kernel
theorem d_De_isDone_4 : decode m_De_isDone.2.1 4 = .ok (.ifCond .eq 7, 3) := by decide +kernel
theorem d_De_isDone_7 : decode m_De_isDone.2.1 7 = .ok (.iconst 1, 1) := by decide +kernel
theorem d_De_isDone_8 : decode m_De_isDone.2.1 8 = .ok (.goto 4, 3) := by decide +kernel
theorem d_De_isDone_11 : decode m_De_isDone.2.1 11 = .ok (.iconst 0, 1) := by decide +kernel
theorem d_De_isDone_12 : decode m_De_isDone.2.1 12 = .ok (.ireturn, 1) := by decide +kernel
theorem d_De_keepOutcome_0 : decode m_De_keepOutcome.2.1 0 = .ok (.aload_n 0, 1) := by decide +kernel
theorem d_De_keepOutcome_1 : decode m_De_keepOutcome.2.1 1 = .ok (.iload_n 2, 1) := by decide +kernel
theorem d_De_keepOutcome_2 : decode m_De_keepOutcome.2.1 2 = .ok (.ifCond .eq 9, 3) := by decide +kernel
theorem d_De_keepOutcome_5 : decode m_De_keepOutcome.2.1 5 = .ok (.iload_n 1, 1) := by decide +kernel
theorem d_De_keepOutcome_6 : decode m_De_keepOutcome.2.1 6 = .ok (.iconst 4, 1) := by decide +kernel
theorem d_De_keepOutcome_7 : decode m_De_keepOutcome.2.1 7 = .ok (.iadd, 1) := by decide +kernel
theorem d_De_keepOutcome_8 : decode m_De_keepOutcome.2.1 8 = .ok (.goto 4, 3) := by decide +kernel
theorem d_De_keepOutcome_11 : decode m_De_keepOutcome.2.1 11 = .ok (.iload_n 1, 1) := by decide +kernel
theorem d_De_keepOutcome_12 : decode m_De_keepOutcome.2.1 12 = .ok (.putfield 9, 3) := by decide +kernel
theorem d_De_keepOutcome_15 : decode m_De_keepOutcome.2.1 15 = .ok (.aload_n 0, 1) := by decide +kernel
theorem d_De_keepOutcome_16 : decode m_De_keepOutcome.2.1 16 = .ok (.iload_n 2, 1) := by decide +kernel
theorem d_De_keepOutcome_17 : decode m_De_keepOutcome.2.1 17 = .ok (.putfield 18, 3) := by decide +kernel
theorem d_De_keepOutcome_20 : decode m_De_keepOutcome.2.1 20 = .ok (.aload_n 0, 1) := by decide +kernel
theorem d_De_keepOutcome_21 : decode m_De_keepOutcome.2.1 21 = .ok (.iload_n 3, 1) := by decide +kernel
theorem d_De_keepOutcome_22 : decode m_De_keepOutcome.2.1 22 = .ok (.putfield 15, 3) := by decide +kernel
theorem d_De_keepOutcome_25 : decode m_De_keepOutcome.2.1 25 = .ok (.return_, 1) := by decide +kernel
theorem d_De_keepTraced_0 : decode m_De_keepTraced.2.1 0 = .ok (.aload_n 0, 1) := by decide +kernel
theorem d_De_keepTraced_1 : decode m_De_keepTraced.2.1 1 = .ok (.aload_n 1, 1) := by decide +kernel
theorem d_De_keepTraced_2 : decode m_De_keepTraced.2.1 2 = .ok (.getfield 22, 3) := by decide +kernel
theorem d_De_keepTraced_5 : decode m_De_keepTraced.2.1 5 = .ok (.putfield 27, 3) := by decide +kernel
theorem d_De_keepTraced_8 : decode m_De_keepTraced.2.1 8 = .ok (.aload_n 0, 1) := by decide +kernel
theorem d_De_keepTraced_9 : decode m_De_keepTraced.2.1 9 = .ok (.aload_n 1, 1) := by decide +kernel
theorem d_De_keepTraced_10 : decode m_De_keepTraced.2.1 10 = .ok (.getfield 28, 3) := by decide +kernel
theorem d_De_keepTraced_13 : decode m_De_keepTraced.2.1 13 = .ok (.putfield 31, 3) := by decide +kernel
theorem d_De_keepTraced_16 : decode m_De_keepTraced.2.1 16 = .ok (.aload_n 0, 1) := by decide +kernel
theorem d_De_keepTraced_17 : decode m_De_keepTraced.2.1 17 = .ok (.aload_n 1, 1) := by decide +kernel
theorem d_De_keepTraced_18 : decode m_De_keepTraced.2.1 18 = .ok (.invokevirtual 32, 3) := by decide +kernel
theorem d_De_keepTraced_21 : decode m_De_keepTraced.2.1 21 = .ok (.putfield 36, 3) := by decide +kernel
theorem d_De_keepTraced_24 : decode m_De_keepTraced.2.1 24 = .ok (.aload_n 0, 1) := by decide +kernel
theorem d_De_keepTraced_25 : decode m_De_keepTraced.2.1 25 = .ok (.iload_n 2, 1) := by decide +kernel
theorem d_De_keepTraced_26 : decode m_De_keepTraced.2.1 26 = .ok (.putfield 38, 3) := by decide +kernel
theorem d_De_keepTraced_29 : decode m_De_keepTraced.2.1 29 = .ok (.return_, 1) := by decide +kernel
theorem d_Lg_init_0 : decode m_Lg_init.2.1 0 = .ok (.aload_n 0, 1) := by decide +kernel
theorem d_Lg_init_1 : decode m_Lg_init.2.1 1 = .ok (.invokespecial 3, 3) := by decide +kernel
theorem d_Lg_init_4 : decode m_Lg_init.2.1 4 = .ok (.aload_n 0, 1) := by decide +kernel
theorem d_Lg_init_5 : decode m_Lg_init.2.1 5 = .ok (.bipush 10, 2) := by decide +kernel
theorem d_Lg_init_7 : decode m_Lg_init.2.1 7 = .ok (.anewarray 9, 3) := by decide +kernel
theorem d_Lg_init_10 : decode m_Lg_init.2.1 10 = .ok (.putfield 11, 3) := by decide +kernel
theorem d_Lg_init_13 : decode m_Lg_init.2.1 13 = .ok (.iconst 0, 1) := by decide +kernel
theorem d_Lg_init_14 : decode m_Lg_init.2.1 14 = .ok (.istore_n 1, 1) := by decide +kernel
theorem d_Lg_init_15 : decode m_Lg_init.2.1 15 = .ok (.iload_n 1, 1) := by decide +kernel
theorem d_Lg_init_16 : decode m_Lg_init.2.1 16 = .ok (.bipush 10, 2) := by decide +kernel
theorem d_Lg_init_18 : decode m_Lg_init.2.1 18 = .ok (.if_icmp .ge 22, 3) := by decide +kernel
theorem d_Lg_init_21 : decode m_Lg_init.2.1 21 = .ok (.aload_n 0, 1) := by decide +kernel
theorem d_Lg_init_22 : decode m_Lg_init.2.1 22 = .ok (.getfield 11, 3) := by decide +kernel
theorem d_Lg_init_25 : decode m_Lg_init.2.1 25 = .ok (.iload_n 1, 1) := by decide +kernel
theorem d_Lg_init_26 : decode m_Lg_init.2.1 26 = .ok (.new 9, 3) := by decide +kernel
theorem d_Lg_init_29 : decode m_Lg_init.2.1 29 = .ok (.dup, 1) := by decide +kernel
theorem d_Lg_init_30 : decode m_Lg_init.2.1 30 = .ok (.invokespecial 17, 3) := by decide +kernel
theorem d_Lg_init_33 : decode m_Lg_init.2.1 33 = .ok (.aastore, 1) := by decide +kernel
theorem d_Lg_init_34 : decode m_Lg_init.2.1 34 = .ok (.iinc 1 1, 3) := by decide +kernel
theorem d_Lg_init_37 : decode m_Lg_init.2.1 37 = .ok (.goto (-22), 3) := by decide +kernel
theorem d_Lg_init_40 : decode m_Lg_init.2.1 40 = .ok (.aload_n 0, 1) := by decide +kernel
theorem d_Lg_init_41 : decode m_Lg_init.2.1 41 = .ok (.iconst 0, 1) := by decide +kernel
theorem d_Lg_init_42 : decode m_Lg_init.2.1 42 = .ok (.putfield 18, 3) := by decide +kernel
theorem d_Lg_init_45 : decode m_Lg_init.2.1 45 = .ok (.aload_n 0, 1) := by decide +kernel
theorem d_Lg_init_46 : decode m_Lg_init.2.1 46 = .ok (.iconst (-1), 1) := by decide +kernel
theorem d_Lg_init_47 : decode m_Lg_init.2.1 47 = .ok (.putfield 22, 3) := by decide +kernel
theorem d_Lg_init_50 : decode m_Lg_init.2.1 50 = .ok (.return_, 1) := by decide +kernel
theorem d_Lg_deed_0 : decode m_Lg_deed.2.1 0 = .ok (.aload_n 0, 1) := by decide +kernel
theorem d_Lg_deed_1 : decode m_Lg_deed.2.1 1 = .ok (.getfield 11, 3) := by decide +kernel
theorem d_Lg_deed_4 : decode m_Lg_deed.2.1 4 = .ok (.iload_n 1, 1) := by decide +kernel
theorem d_Lg_deed_5 : decode m_Lg_deed.2.1 5 = .ok (.aaload, 1) := by decide +kernel
theorem d_Lg_deed_6 : decode m_Lg_deed.2.1 6 = .ok (.areturn, 1) := by decide +kernel
theorem d_Lg_hazardPart_0 : decode m_Lg_hazardPart.2.1 0 = .ok (.aload_n 0, 1) := by decide +kernel
theorem d_Lg_hazardPart_1 : decode m_Lg_hazardPart.2.1 1 = .ok (.invokevirtual 32, 3) := by decide +kernel
theorem d_Lg_hazardPart_4 : decode m_Lg_hazardPart.2.1 4 = .ok (.ifCond .ne 5, 3) := by decide +kernel
theorem d_Lg_hazardPart_7 : decode m_Lg_hazardPart.2.1 7 = .ok (.iconst (-1), 1) := by decide +kernel
theorem d_Lg_hazardPart_8 : decode m_Lg_hazardPart.2.1 8 = .ok (.ireturn, 1) := by decide +kernel
theorem d_Lg_hazardPart_9 : decode m_Lg_hazardPart.2.1 9 = .ok (.iload_n 1, 1) := by decide +kernel
theorem d_Lg_hazardPart_10 : decode m_Lg_hazardPart.2.1 10 = .ok (.tableswitch 50 0 3 #[30, 35, 40, 45], 30) := by decide +kernel
theorem d_Lg_hazardPart_40 : decode m_Lg_hazardPart.2.1 40 = .ok (.aload_n 0, 1) := by decide +kernel
theorem d_Lg_hazardPart_41 : decode m_Lg_hazardPart.2.1 41 = .ok (.getfield 22, 3) := by decide +kernel
theorem d_Lg_hazardPart_44 : decode m_Lg_hazardPart.2.1 44 = .ok (.ireturn, 1) := by decide +kernel
theorem d_Lg_hazardPart_45 : decode m_Lg_hazardPart.2.1 45 = .ok (.aload_n 0, 1) := by decide +kernel
theorem d_Lg_hazardPart_46 : decode m_Lg_hazardPart.2.1 46 = .ok (.getfield 36, 3) := by decide +kernel
theorem d_Lg_hazardPart_49 : decode m_Lg_hazardPart.2.1 49 = .ok (.ireturn, 1) := by decide +kernel
theorem d_Lg_hazardPart_50 : decode m_Lg_hazardPart.2.1 50 = .ok (.aload_n 0, 1) := by decide +kernel
theorem d_Lg_hazardPart_51 : decode m_Lg_hazardPart.2.1 51 = .ok (.getfield 39, 3) := by decide +kernel
theorem d_Lg_hazardPart_54 : decode m_Lg_hazardPart.2.1 54 = .ok (.ireturn, 1) := by decide +kernel
theorem d_Lg_hazardPart_55 : decode m_Lg_hazardPart.2.1 55 = .ok (.aload_n 0, 1) := by decide +kernel
theorem d_Lg_hazardPart_56 : decode m_Lg_hazardPart.2.1 56 = .ok (.getfield 42, 3) := by decide +kernel
theorem d_Lg_hazardPart_59 : decode m_Lg_hazardPart.2.1 59 = .ok (.ireturn, 1) := by decide +kernel
theorem d_Lg_hazardPart_60 : decode m_Lg_hazardPart.2.1 60 = .ok (.iconst (-1), 1) := by decide +kernel
theorem d_Lg_hazardPart_61 : decode m_Lg_hazardPart.2.1 61 = .ok (.ireturn, 1) := by decide +kernel
theorem d_Lg_hasHazard_0 : decode m_Lg_hasHazard.2.1 0 = .ok (.aload_n 0, 1) := by decide +kernel
theorem d_Lg_hasHazard_1 : decode m_Lg_hasHazard.2.1 1 = .ok (.getfield 22, 3) := by decide +kernel
theorem d_Lg_hasHazard_4 : decode m_Lg_hasHazard.2.1 4 = .ok (.iconst (-1), 1) := by decide +kernel
theorem d_Lg_hasHazard_5 : decode m_Lg_hasHazard.2.1 5 = .ok (.if_icmp .eq 7, 3) := by decide +kernel
theorem d_Lg_hasHazard_8 : decode m_Lg_hasHazard.2.1 8 = .ok (.iconst 1, 1) := by decide +kernel
theorem d_Lg_hasHazard_9 : decode m_Lg_hasHazard.2.1 9 = .ok (.goto 4, 3) := by decide +kernel
theorem d_Lg_hasHazard_12 : decode m_Lg_hasHazard.2.1 12 = .ok (.iconst 0, 1) := by decide +kernel
theorem d_Lg_hasHazard_13 : decode m_Lg_hasHazard.2.1 13 = .ok (.ireturn, 1) := by decide +kernel
theorem d_Lg_begin_0 : decode m_Lg_begin.2.1 0 = .ok (.aload_n 0, 1) := by decide +kernel
theorem d_Lg_begin_1 : decode m_Lg_begin.2.1 1 = .ok (.iload_n 1, 1) := by decide +kernel
theorem d_Lg_begin_2 : decode m_Lg_begin.2.1 2 = .ok (.putfield 18, 3) := by decide +kernel
theorem d_Lg_begin_5 : decode m_Lg_begin.2.1 5 = .ok (.iconst 0, 1) := by decide +kernel
theorem d_Lg_begin_6 : decode m_Lg_begin.2.1 6 = .ok (.istore_n 2, 1) := by decide +kernel
theorem d_Lg_begin_7 : decode m_Lg_begin.2.1 7 = .ok (.iload_n 2, 1) := by decide +kernel
theorem d_Lg_begin_8 : decode m_Lg_begin.2.1 8 = .ok (.aload_n 0, 1) := by decide +kernel
theorem d_Lg_begin_9 : decode m_Lg_begin.2.1 9 = .ok (.getfield 18, 3) := by decide +kernel
theorem d_Lg_begin_12 : decode m_Lg_begin.2.1 12 = .ok (.if_icmp .ge 18, 3) := by decide +kernel
theorem d_Lg_begin_15 : decode m_Lg_begin.2.1 15 = .ok (.aload_n 0, 1) := by decide +kernel
theorem d_Lg_begin_16 : decode m_Lg_begin.2.1 16 = .ok (.getfield 11, 3) := by decide +kernel
theorem d_Lg_begin_19 : decode m_Lg_begin.2.1 19 = .ok (.iload_n 2, 1) := by decide +kernel
theorem d_Lg_begin_20 : decode m_Lg_begin.2.1 20 = .ok (.aaload, 1) := by decide +kernel
theorem d_Lg_begin_21 : decode m_Lg_begin.2.1 21 = .ok (.invokevirtual 25, 3) := by decide +kernel
theorem d_Lg_begin_24 : decode m_Lg_begin.2.1 24 = .ok (.iinc 2 1, 3) := by decide +kernel
theorem d_Lg_begin_27 : decode m_Lg_begin.2.1 27 = .ok (.goto (-20), 3) := by decide +kernel
theorem d_Lg_begin_30 : decode m_Lg_begin.2.1 30 = .ok (.aload_n 0, 1) := by decide +kernel
theorem d_Lg_begin_31 : decode m_Lg_begin.2.1 31 = .ok (.iconst (-1), 1) := by decide +kernel
theorem d_Lg_begin_32 : decode m_Lg_begin.2.1 32 = .ok (.putfield 22, 3) := by decide +kernel
theorem d_Lg_begin_35 : decode m_Lg_begin.2.1 35 = .ok (.aload_n 0, 1) := by decide +kernel
theorem d_Lg_begin_36 : decode m_Lg_begin.2.1 36 = .ok (.iconst 0, 1) := by decide +kernel
theorem d_Lg_begin_37 : decode m_Lg_begin.2.1 37 = .ok (.putfield 28, 3) := by decide +kernel
theorem d_Lg_begin_40 : decode m_Lg_begin.2.1 40 = .ok (.return_, 1) := by decide +kernel
theorem d_Lg_lookForHazard_0 : decode m_Lg_lookForHazard.2.1 0 = .ok (.aload_n 0, 1) := by decide +kernel
theorem d_Lg_lookForHazard_1 : decode m_Lg_lookForHazard.2.1 1 = .ok (.iload_n 1, 1) := by decide +kernel
theorem d_Lg_lookForHazard_2 : decode m_Lg_lookForHazard.2.1 2 = .ok (.iconst 1, 1) := by decide +kernel
theorem d_Lg_lookForHazard_3 : decode m_Lg_lookForHazard.2.1 3 = .ok (.invokevirtual 45, 3) := by decide +kernel
theorem d_Lg_lookForHazard_6 : decode m_Lg_lookForHazard.2.1 6 = .ok (.aload_n 0, 1) := by decide +kernel
theorem d_Lg_lookForHazard_7 : decode m_Lg_lookForHazard.2.1 7 = .ok (.invokevirtual 32, 3) := by decide +kernel
theorem d_Lg_lookForHazard_10 : decode m_Lg_lookForHazard.2.1 10 = .ok (.ifCond .ne 9, 3) := by decide +kernel
theorem d_Lg_lookForHazard_13 : decode m_Lg_lookForHazard.2.1 13 = .ok (.aload_n 0, 1) := by decide +kernel
theorem d_Lg_lookForHazard_14 : decode m_Lg_lookForHazard.2.1 14 = .ok (.iload_n 1, 1) := by decide +kernel
theorem d_Lg_lookForHazard_15 : decode m_Lg_lookForHazard.2.1 15 = .ok (.iconst 0, 1) := by decide +kernel
theorem d_Lg_lookForHazard_16 : decode m_Lg_lookForHazard.2.1 16 = .ok (.invokevirtual 45, 3) := by decide +kernel
theorem d_Lg_lookForHazard_19 : decode m_Lg_lookForHazard.2.1 19 = .ok (.return_, 1) := by decide +kernel
theorem d_Lg_lookForHazard2_0 : decode m_Lg_lookForHazard2.2.1 0 = .ok (.iconst 0, 1) := by decide +kernel
theorem d_Lg_lookForHazard2_1 : decode m_Lg_lookForHazard2.2.1 1 = .ok (.istore_n 3, 1) := by decide +kernel
theorem d_Lg_lookForHazard2_2 : decode m_Lg_lookForHazard2.2.1 2 = .ok (.iload_n 3, 1) := by decide +kernel
theorem d_Lg_lookForHazard2_3 : decode m_Lg_lookForHazard2.2.1 3 = .ok (.aload_n 0, 1) := by decide +kernel
theorem d_Lg_lookForHazard2_4 : decode m_Lg_lookForHazard2.2.1 4 = .ok (.getfield 18, 3) := by decide +kernel
theorem d_Lg_lookForHazard2_7 : decode m_Lg_lookForHazard2.2.1 7 = .ok (.if_icmp .ge 78, 3) := by decide +kernel
theorem d_Lg_lookForHazard2_10 : decode m_Lg_lookForHazard2.2.1 10 = .ok (.aload_n 0, 1) := by decide +kernel
theorem d_Lg_lookForHazard2_11 : decode m_Lg_lookForHazard2.2.1 11 = .ok (.invokevirtual 32, 3) := by decide +kernel
theorem d_Lg_lookForHazard2_14 : decode m_Lg_lookForHazard2.2.1 14 = .ok (.ifCond .ne 71, 3) := by decide +kernel
theorem d_Lg_lookForHazard2_17 : decode m_Lg_lookForHazard2.2.1 17 = .ok (.aload_n 0, 1) := by decide +kernel
theorem d_Lg_lookForHazard2_18 : decode m_Lg_lookForHazard2.2.1 18 = .ok (.getfield 11, 3) := by decide +kernel
theorem d_Lg_lookForHazard2_21 : decode m_Lg_lookForHazard2.2.1 21 = .ok (.iload_n 3, 1) := by decide +kernel
theorem d_Lg_lookForHazard2_22 : decode m_Lg_lookForHazard2.2.1 22 = .ok (.aaload, 1) := by decide +kernel
theorem d_Lg_lookForHazard2_23 : decode m_Lg_lookForHazard2.2.1 23 = .ok (.getfield 49, 3) := by decide +kernel
theorem d_Lg_lookForHazard2_26 : decode m_Lg_lookForHazard2.2.1 26 = .ok (.ifCond .ne 15, 3) := by decide +kernel
theorem d_Lg_lookForHazard2_29 : decode m_Lg_lookForHazard2.2.1 29 = .ok (.aload_n 0, 1) := by decide +kernel
theorem d_Lg_lookForHazard2_30 : decode m_Lg_lookForHazard2.2.1 30 = .ok (.getfield 11, 3) := by decide +kernel
theorem d_Lg_lookForHazard2_33 : decode m_Lg_lookForHazard2.2.1 33 = .ok (.iload_n 1, 1) := by decide +kernel
theorem d_Lg_lookForHazard2_34 : decode m_Lg_lookForHazard2.2.1 34 = .ok (.aaload, 1) := by decide +kernel
theorem d_Lg_lookForHazard2_35 : decode m_Lg_lookForHazard2.2.1 35 = .ok (.getfield 49, 3) := by decide +kernel
theorem d_Lg_lookForHazard2_38 : decode m_Lg_lookForHazard2.2.1 38 = .ok (.ifCond .eq 7, 3) := by decide +kernel
theorem d_Lg_lookForHazard2_41 : decode m_Lg_lookForHazard2.2.1 41 = .ok (.iconst 1, 1) := by decide +kernel
theorem d_Lg_lookForHazard2_42 : decode m_Lg_lookForHazard2.2.1 42 = .ok (.goto 4, 3) := by decide +kernel
theorem d_Lg_lookForHazard2_45 : decode m_Lg_lookForHazard2.2.1 45 = .ok (.iconst 0, 1) := by decide +kernel
theorem d_Lg_lookForHazard2_46 : decode m_Lg_lookForHazard2.2.1 46 = .ok (.istore 4, 2) := by decide +kernel
theorem d_Lg_lookForHazard2_48 : decode m_Lg_lookForHazard2.2.1 48 = .ok (.iload_n 3, 1) := by decide +kernel
theorem d_Lg_lookForHazard2_49 : decode m_Lg_lookForHazard2.2.1 49 = .ok (.iload_n 1, 1) := by decide +kernel
theorem d_Lg_lookForHazard2_50 : decode m_Lg_lookForHazard2.2.1 50 = .ok (.if_icmp .eq 29, 3) := by decide +kernel
theorem d_Lg_lookForHazard2_53 : decode m_Lg_lookForHazard2.2.1 53 = .ok (.aload_n 0, 1) := by decide +kernel
theorem d_Lg_lookForHazard2_54 : decode m_Lg_lookForHazard2.2.1 54 = .ok (.getfield 11, 3) := by decide +kernel
theorem d_Lg_lookForHazard2_57 : decode m_Lg_lookForHazard2.2.1 57 = .ok (.iload_n 3, 1) := by decide +kernel
theorem d_Lg_lookForHazard2_58 : decode m_Lg_lookForHazard2.2.1 58 = .ok (.aaload, 1) := by decide +kernel
theorem d_Lg_lookForHazard2_59 : decode m_Lg_lookForHazard2.2.1 59 = .ok (.invokevirtual 52, 3) := by decide +kernel
theorem d_Lg_lookForHazard2_62 : decode m_Lg_lookForHazard2.2.1 62 = .ok (.ifCond .eq 17, 3) := by decide +kernel
theorem d_Lg_lookForHazard2_65 : decode m_Lg_lookForHazard2.2.1 65 = .ok (.iload 4, 2) := by decide +kernel
theorem d_Lg_lookForHazard2_67 : decode m_Lg_lookForHazard2.2.1 67 = .ok (.iload_n 2, 1) := by decide +kernel
theorem d_Lg_lookForHazard2_68 : decode m_Lg_lookForHazard2.2.1 68 = .ok (.if_icmp .ne 11, 3) := by decide +kernel
theorem d_Lg_lookForHazard2_71 : decode m_Lg_lookForHazard2.2.1 71 = .ok (.aload_n 0, 1) := by decide +kernel
theorem d_Lg_lookForHazard2_72 : decode m_Lg_lookForHazard2.2.1 72 = .ok (.iload_n 3, 1) := by decide +kernel
theorem d_Lg_lookForHazard2_73 : decode m_Lg_lookForHazard2.2.1 73 = .ok (.iload_n 1, 1) := by decide +kernel
theorem d_Lg_lookForHazard2_74 : decode m_Lg_lookForHazard2.2.1 74 = .ok (.iload 4, 2) := by decide +kernel
theorem d_Lg_lookForHazard2_76 : decode m_Lg_lookForHazard2.2.1 76 = .ok (.invokevirtual 55, 3) := by decide +kernel
theorem d_Lg_lookForHazard2_79 : decode m_Lg_lookForHazard2.2.1 79 = .ok (.iinc 3 1, 3) := by decide +kernel
theorem d_Lg_lookForHazard2_82 : decode m_Lg_lookForHazard2.2.1 82 = .ok (.goto (-80), 3) := by decide +kernel
theorem d_Lg_lookForHazard2_85 : decode m_Lg_lookForHazard2.2.1 85 = .ok (.return_, 1) := by decide +kernel
theorem d_Lg_lookBetween_0 : decode m_Lg_lookBetween.2.1 0 = .ok (.iconst 1, 1) := by decide +kernel
theorem d_Lg_lookBetween_1 : decode m_Lg_lookBetween.2.1 1 = .ok (.istore 4, 2) := by decide +kernel
theorem d_Lg_lookBetween_3 : decode m_Lg_lookBetween.2.1 3 = .ok (.iload 4, 2) := by decide +kernel
theorem d_Lg_lookBetween_5 : decode m_Lg_lookBetween.2.1 5 = .ok (.iconst 3, 1) := by decide +kernel
theorem d_Lg_lookBetween_6 : decode m_Lg_lookBetween.2.1 6 = .ok (.if_icmp .gt 55, 3) := by decide +kernel
theorem d_Lg_lookBetween_9 : decode m_Lg_lookBetween.2.1 9 = .ok (.aload_n 0, 1) := by decide +kernel
theorem d_Lg_lookBetween_10 : decode m_Lg_lookBetween.2.1 10 = .ok (.iload 4, 2) := by decide +kernel
theorem d_Lg_lookBetween_12 : decode m_Lg_lookBetween.2.1 12 = .ok (.iload_n 1, 1) := by decide +kernel
theorem d_Lg_lookBetween_13 : decode m_Lg_lookBetween.2.1 13 = .ok (.iload_n 2, 1) := by decide +kernel
theorem d_Lg_lookBetween_14 : decode m_Lg_lookBetween.2.1 14 = .ok (.invokevirtual 59, 3) := by decide +kernel
theorem d_Lg_lookBetween_17 : decode m_Lg_lookBetween.2.1 17 = .ok (.istore 5, 2) := by decide +kernel
theorem d_Lg_lookBetween_19 : decode m_Lg_lookBetween.2.1 19 = .ok (.iload 5, 2) := by decide +kernel
theorem d_Lg_lookBetween_21 : decode m_Lg_lookBetween.2.1 21 = .ok (.ifCond .eq 34, 3) := by decide +kernel
theorem d_Lg_lookBetween_24 : decode m_Lg_lookBetween.2.1 24 = .ok (.aload_n 0, 1) := by decide +kernel
theorem d_Lg_lookBetween_25 : decode m_Lg_lookBetween.2.1 25 = .ok (.iload 4, 2) := by decide +kernel
theorem d_Lg_lookBetween_27 : decode m_Lg_lookBetween.2.1 27 = .ok (.putfield 22, 3) := by decide +kernel
theorem d_Lg_lookBetween_30 : decode m_Lg_lookBetween.2.1 30 = .ok (.aload_n 0, 1) := by decide +kernel
theorem d_Lg_lookBetween_31 : decode m_Lg_lookBetween.2.1 31 = .ok (.iload_n 1, 1) := by decide +kernel
theorem d_Lg_lookBetween_32 : decode m_Lg_lookBetween.2.1 32 = .ok (.putfield 36, 3) := by decide +kernel
theorem d_Lg_lookBetween_35 : decode m_Lg_lookBetween.2.1 35 = .ok (.aload_n 0, 1) := by decide +kernel
theorem d_Lg_lookBetween_36 : decode m_Lg_lookBetween.2.1 36 = .ok (.iload_n 2, 1) := by decide +kernel
theorem d_Lg_lookBetween_37 : decode m_Lg_lookBetween.2.1 37 = .ok (.putfield 39, 3) := by decide +kernel
theorem d_Lg_lookBetween_40 : decode m_Lg_lookBetween.2.1 40 = .ok (.aload_n 0, 1) := by decide +kernel
theorem d_Lg_lookBetween_41 : decode m_Lg_lookBetween.2.1 41 = .ok (.iload 5, 2) := by decide +kernel
theorem d_Lg_lookBetween_43 : decode m_Lg_lookBetween.2.1 43 = .ok (.invokestatic 63, 3) := by decide +kernel
theorem d_Lg_lookBetween_46 : decode m_Lg_lookBetween.2.1 46 = .ok (.putfield 42, 3) := by decide +kernel
theorem d_Lg_lookBetween_49 : decode m_Lg_lookBetween.2.1 49 = .ok (.aload_n 0, 1) := by decide +kernel
theorem d_Lg_lookBetween_50 : decode m_Lg_lookBetween.2.1 50 = .ok (.iload_n 3, 1) := by decide +kernel
theorem d_Lg_lookBetween_51 : decode m_Lg_lookBetween.2.1 51 = .ok (.putfield 28, 3) := by decide +kernel
theorem d_Lg_lookBetween_54 : decode m_Lg_lookBetween.2.1 54 = .ok (.return_, 1) := by decide +kernel
theorem d_Lg_lookBetween_55 : decode m_Lg_lookBetween.2.1 55 = .ok (.iinc 4 1, 3) := by decide +kernel
theorem d_Lg_lookBetween_58 : decode m_Lg_lookBetween.2.1 58 = .ok (.goto (-55), 3) := by decide +kernel
theorem d_Lg_lookBetween_61 : decode m_Lg_lookBetween.2.1 61 = .ok (.return_, 1) := by decide +kernel
theorem d_Lg_filesInTheWay_0 : decode m_Lg_filesInTheWay.2.1 0 = .ok (.aload_n 0, 1) := by decide +kernel
theorem d_Lg_filesInTheWay_1 : decode m_Lg_filesInTheWay.2.1 1 = .ok (.getfield 11, 3) := by decide +kernel
theorem d_Lg_filesInTheWay_4 : decode m_Lg_filesInTheWay.2.1 4 = .ok (.iload_n 2, 1) := by decide +kernel
theorem d_Lg_filesInTheWay_5 : decode m_Lg_filesInTheWay.2.1 5 = .ok (.aaload, 1) := by decide +kernel
theorem d_Lg_filesInTheWay_6 : decode m_Lg_filesInTheWay.2.1 6 = .ok (.astore 4, 2) := by decide +kernel
theorem d_Lg_filesInTheWay_8 : decode m_Lg_filesInTheWay.2.1 8 = .ok (.aload_n 0, 1) := by decide +kernel
theorem d_Lg_filesInTheWay_9 : decode m_Lg_filesInTheWay.2.1 9 = .ok (.getfield 11, 3) := by decide +kernel
theorem d_Lg_filesInTheWay_12 : decode m_Lg_filesInTheWay.2.1 12 = .ok (.iload_n 3, 1) := by decide +kernel
theorem d_Lg_filesInTheWay_13 : decode m_Lg_filesInTheWay.2.1 13 = .ok (.aaload, 1) := by decide +kernel
theorem d_Lg_filesInTheWay_14 : decode m_Lg_filesInTheWay.2.1 14 = .ok (.astore 5, 2) := by decide +kernel
theorem d_Lg_filesInTheWay_16 : decode m_Lg_filesInTheWay.2.1 16 = .ok (.iload_n 1, 1) := by decide +kernel
theorem d_Lg_filesInTheWay_17 : decode m_Lg_filesInTheWay.2.1 17 = .ok (.lookupswitch 63 #[(1, 27), (2, 39)], 27) := by decide +kernel
theorem d_Lg_filesInTheWay_44 : decode m_Lg_filesInTheWay.2.1 44 = .ok (.aload 4, 2) := by decide +kernel
theorem d_Lg_filesInTheWay_46 : decode m_Lg_filesInTheWay.2.1 46 = .ok (.getfield 67, 3) := by decide +kernel
theorem d_Lg_filesInTheWay_49 : decode m_Lg_filesInTheWay.2.1 49 = .ok (.aload 5, 2) := by decide +kernel
theorem d_Lg_filesInTheWay_51 : decode m_Lg_filesInTheWay.2.1 51 = .ok (.getfield 67, 3) := by decide +kernel
theorem d_Lg_filesInTheWay_54 : decode m_Lg_filesInTheWay.2.1 54 = .ok (.iand, 1) := by decide +kernel
theorem d_Lg_filesInTheWay_55 : decode m_Lg_filesInTheWay.2.1 55 = .ok (.ireturn, 1) := by decide +kernel
theorem d_Lg_filesInTheWay_56 : decode m_Lg_filesInTheWay.2.1 56 = .ok (.aload 4, 2) := by decide +kernel
theorem d_Lg_filesInTheWay_58 : decode m_Lg_filesInTheWay.2.1 58 = .ok (.getfield 70, 3) := by decide +kernel
theorem d_Lg_filesInTheWay_61 : decode m_Lg_filesInTheWay.2.1 61 = .ok (.aload 5, 2) := by decide +kernel
theorem d_Lg_filesInTheWay_63 : decode m_Lg_filesInTheWay.2.1 63 = .ok (.getfield 67, 3) := by decide +kernel
theorem d_Lg_filesInTheWay_66 : decode m_Lg_filesInTheWay.2.1 66 = .ok (.iand, 1) := by decide +kernel
theorem d_Lg_filesInTheWay_67 : decode m_Lg_filesInTheWay.2.1 67 = .ok (.aload 4, 2) := by decide +kernel
theorem d_Lg_filesInTheWay_69 : decode m_Lg_filesInTheWay.2.1 69 = .ok (.getfield 73, 3) := by decide +kernel
theorem d_Lg_filesInTheWay_72 : decode m_Lg_filesInTheWay.2.1 72 = .ok (.aload 5, 2) := by decide +kernel
theorem d_Lg_filesInTheWay_74 : decode m_Lg_filesInTheWay.2.1 74 = .ok (.getfield 76, 3) := by decide +kernel
theorem d_Lg_filesInTheWay_77 : decode m_Lg_filesInTheWay.2.1 77 = .ok (.iand, 1) := by decide +kernel
theorem d_Lg_filesInTheWay_78 : decode m_Lg_filesInTheWay.2.1 78 = .ok (.ior, 1) := by decide +kernel
theorem d_Lg_filesInTheWay_79 : decode m_Lg_filesInTheWay.2.1 79 = .ok (.ireturn, 1) := by decide +kernel
theorem d_Lg_filesInTheWay_80 : decode m_Lg_filesInTheWay.2.1 80 = .ok (.iload_n 2, 1) := by decide +kernel
theorem d_Lg_filesInTheWay_81 : decode m_Lg_filesInTheWay.2.1 81 = .ok (.iload_n 3, 1) := by decide +kernel
theorem d_Lg_filesInTheWay_82 : decode m_Lg_filesInTheWay.2.1 82 = .ok (.if_icmp .le 29, 3) := by decide +kernel
theorem d_Lg_filesInTheWay_85 : decode m_Lg_filesInTheWay.2.1 85 = .ok (.aload 4, 2) := by decide +kernel
theorem d_Lg_filesInTheWay_87 : decode m_Lg_filesInTheWay.2.1 87 = .ok (.getfield 67, 3) := by decide +kernel
theorem d_Lg_filesInTheWay_90 : decode m_Lg_filesInTheWay.2.1 90 = .ok (.aload 5, 2) := by decide +kernel
theorem d_Lg_filesInTheWay_92 : decode m_Lg_filesInTheWay.2.1 92 = .ok (.getfield 70, 3) := by decide +kernel
theorem d_Lg_filesInTheWay_95 : decode m_Lg_filesInTheWay.2.1 95 = .ok (.iand, 1) := by decide +kernel
theorem d_Lg_filesInTheWay_96 : decode m_Lg_filesInTheWay.2.1 96 = .ok (.aload 4, 2) := by decide +kernel
theorem d_Lg_filesInTheWay_98 : decode m_Lg_filesInTheWay.2.1 98 = .ok (.getfield 76, 3) := by decide +kernel
theorem d_Lg_filesInTheWay_101 : decode m_Lg_filesInTheWay.2.1 101 = .ok (.aload 5, 2) := by decide +kernel
theorem d_Lg_filesInTheWay_103 : decode m_Lg_filesInTheWay.2.1 103 = .ok (.getfield 73, 3) := by decide +kernel
theorem d_Lg_filesInTheWay_106 : decode m_Lg_filesInTheWay.2.1 106 = .ok (.iand, 1) := by decide +kernel
theorem d_Lg_filesInTheWay_107 : decode m_Lg_filesInTheWay.2.1 107 = .ok (.ior, 1) := by decide +kernel
theorem d_Lg_filesInTheWay_108 : decode m_Lg_filesInTheWay.2.1 108 = .ok (.goto 4, 3) := by decide +kernel
theorem d_Lg_filesInTheWay_111 : decode m_Lg_filesInTheWay.2.1 111 = .ok (.iconst 0, 1) := by decide +kernel
theorem d_Lg_filesInTheWay_112 : decode m_Lg_filesInTheWay.2.1 112 = .ok (.ireturn, 1) := by decide +kernel
theorem d_Lg_isSpeculative_0 : decode m_Lg_isSpeculative.2.1 0 = .ok (.aload_n 0, 1) := by decide +kernel
theorem d_Lg_isSpeculative_1 : decode m_Lg_isSpeculative.2.1 1 = .ok (.invokevirtual 32, 3) := by decide +kernel
theorem d_Lg_isSpeculative_4 : decode m_Lg_isSpeculative.2.1 4 = .ok (.ifCond .eq 14, 3) := by decide +kernel
theorem d_Lg_isSpeculative_7 : decode m_Lg_isSpeculative.2.1 7 = .ok (.aload_n 0, 1) := by decide +kernel
theorem d_Lg_isSpeculative_8 : decode m_Lg_isSpeculative.2.1 8 = .ok (.getfield 28, 3) := by decide +kernel
theorem d_Lg_isSpeculative_11 : decode m_Lg_isSpeculative.2.1 11 = .ok (.ifCond .eq 7, 3) := by decide +kernel
theorem d_Lg_isSpeculative_14 : decode m_Lg_isSpeculative.2.1 14 = .ok (.iconst 1, 1) := by decide +kernel
theorem d_Lg_isSpeculative_15 : decode m_Lg_isSpeculative.2.1 15 = .ok (.goto 4, 3) := by decide +kernel
theorem d_Lg_isSpeculative_18 : decode m_Lg_isSpeculative.2.1 18 = .ok (.iconst 0, 1) := by decide +kernel
theorem d_Lg_isSpeculative_19 : decode m_Lg_isSpeculative.2.1 19 = .ok (.ireturn, 1) := by decide +kernel
theorem d_Sc_init_0 : decode m_Sc_init.2.1 0 = .ok (.aload_n 0, 1) := by decide +kernel
theorem d_Sc_init_1 : decode m_Sc_init.2.1 1 = .ok (.invokespecial 3, 3) := by decide +kernel
theorem d_Sc_init_4 : decode m_Sc_init.2.1 4 = .ok (.aload_n 0, 1) := by decide +kernel
theorem d_Sc_init_5 : decode m_Sc_init.2.1 5 = .ok (.bipush 10, 2) := by decide +kernel
theorem d_Sc_init_7 : decode m_Sc_init.2.1 7 = .ok (.anewarray 9, 3) := by decide +kernel
theorem d_Sc_init_10 : decode m_Sc_init.2.1 10 = .ok (.putfield 11, 3) := by decide +kernel
theorem d_Sc_init_13 : decode m_Sc_init.2.1 13 = .ok (.iconst 0, 1) := by decide +kernel
theorem d_Sc_init_14 : decode m_Sc_init.2.1 14 = .ok (.istore_n 1, 1) := by decide +kernel
theorem d_Sc_init_15 : decode m_Sc_init.2.1 15 = .ok (.iload_n 1, 1) := by decide +kernel
theorem d_Sc_init_16 : decode m_Sc_init.2.1 16 = .ok (.bipush 10, 2) := by decide +kernel
theorem d_Sc_init_18 : decode m_Sc_init.2.1 18 = .ok (.if_icmp .ge 22, 3) := by decide +kernel
theorem d_Sc_init_21 : decode m_Sc_init.2.1 21 = .ok (.aload_n 0, 1) := by decide +kernel
theorem d_Sc_init_22 : decode m_Sc_init.2.1 22 = .ok (.getfield 11, 3) := by decide +kernel
theorem d_Sc_init_25 : decode m_Sc_init.2.1 25 = .ok (.iload_n 1, 1) := by decide +kernel
theorem d_Sc_init_26 : decode m_Sc_init.2.1 26 = .ok (.new 9, 3) := by decide +kernel
theorem d_Sc_init_29 : decode m_Sc_init.2.1 29 = .ok (.dup, 1) := by decide +kernel
theorem d_Sc_init_30 : decode m_Sc_init.2.1 30 = .ok (.invokespecial 17, 3) := by decide +kernel
theorem d_Sc_init_33 : decode m_Sc_init.2.1 33 = .ok (.aastore, 1) := by decide +kernel
theorem d_Sc_init_34 : decode m_Sc_init.2.1 34 = .ok (.iinc 1 1, 3) := by decide +kernel
theorem d_Sc_init_37 : decode m_Sc_init.2.1 37 = .ok (.goto (-22), 3) := by decide +kernel
theorem d_Sc_init_40 : decode m_Sc_init.2.1 40 = .ok (.aload_n 0, 1) := by decide +kernel
theorem d_Sc_init_41 : decode m_Sc_init.2.1 41 = .ok (.iconst 0, 1) := by decide +kernel
theorem d_Sc_init_42 : decode m_Sc_init.2.1 42 = .ok (.putfield 18, 3) := by decide +kernel
theorem d_Sc_init_45 : decode m_Sc_init.2.1 45 = .ok (.return_, 1) := by decide +kernel
theorem d_Sc_length_0 : decode m_Sc_length.2.1 0 = .ok (.aload_n 0, 1) := by decide +kernel
theorem d_Sc_length_1 : decode m_Sc_length.2.1 1 = .ok (.getfield 18, 3) := by decide +kernel
theorem d_Sc_length_4 : decode m_Sc_length.2.1 4 = .ok (.ireturn, 1) := by decide +kernel
theorem d_Sc_has_0 : decode m_Sc_has.2.1 0 = .ok (.iload_n 1, 1) := by decide +kernel
theorem d_Sc_has_1 : decode m_Sc_has.2.1 1 = .ok (.ifCond .lt 15, 3) := by decide +kernel
theorem d_Sc_has_4 : decode m_Sc_has.2.1 4 = .ok (.iload_n 1, 1) := by decide +kernel
theorem d_Sc_has_5 : decode m_Sc_has.2.1 5 = .ok (.aload_n 0, 1) := by decide +kernel
theorem d_Sc_has_6 : decode m_Sc_has.2.1 6 = .ok (.getfield 18, 3) := by decide +kernel
theorem d_Sc_has_9 : decode m_Sc_has.2.1 9 = .ok (.if_icmp .ge 7, 3) := by decide +kernel
theorem d_Sc_has_12 : decode m_Sc_has.2.1 12 = .ok (.iconst 1, 1) := by decide +kernel
theorem d_Sc_has_13 : decode m_Sc_has.2.1 13 = .ok (.goto 4, 3) := by decide +kernel
theorem d_Sc_has_16 : decode m_Sc_has.2.1 16 = .ok (.iconst 0, 1) := by decide +kernel
theorem d_Sc_has_17 : decode m_Sc_has.2.1 17 = .ok (.ireturn, 1) := by decide +kernel
theorem d_Sc_isFull_0 : decode m_Sc_isFull.2.1 0 = .ok (.aload_n 0, 1) := by decide +kernel
theorem d_Sc_isFull_1 : decode m_Sc_isFull.2.1 1 = .ok (.getfield 18, 3) := by decide +kernel
theorem d_Sc_isFull_4 : decode m_Sc_isFull.2.1 4 = .ok (.bipush 10, 2) := by decide +kernel
theorem d_Sc_isFull_6 : decode m_Sc_isFull.2.1 6 = .ok (.if_icmp .lt 7, 3) := by decide +kernel
theorem d_Sc_isFull_9 : decode m_Sc_isFull.2.1 9 = .ok (.iconst 1, 1) := by decide +kernel
theorem d_Sc_isFull_10 : decode m_Sc_isFull.2.1 10 = .ok (.goto 4, 3) := by decide +kernel
theorem d_Sc_isFull_13 : decode m_Sc_isFull.2.1 13 = .ok (.iconst 0, 1) := by decide +kernel
theorem d_Sc_isFull_14 : decode m_Sc_isFull.2.1 14 = .ok (.ireturn, 1) := by decide +kernel
theorem d_Sc_append_0 : decode m_Sc_append.2.1 0 = .ok (.aload_n 0, 1) := by decide +kernel
theorem d_Sc_append_1 : decode m_Sc_append.2.1 1 = .ok (.getfield 11, 3) := by decide +kernel
theorem d_Sc_append_4 : decode m_Sc_append.2.1 4 = .ok (.aload_n 0, 1) := by decide +kernel
theorem d_Sc_append_5 : decode m_Sc_append.2.1 5 = .ok (.getfield 18, 3) := by decide +kernel
theorem d_Sc_append_8 : decode m_Sc_append.2.1 8 = .ok (.aaload, 1) := by decide +kernel
theorem d_Sc_append_9 : decode m_Sc_append.2.1 9 = .ok (.aload_n 1, 1) := by decide +kernel
theorem d_Sc_append_10 : decode m_Sc_append.2.1 10 = .ok (.invokevirtual 22, 3) := by decide +kernel
theorem d_Sc_append_13 : decode m_Sc_append.2.1 13 = .ok (.aload_n 0, 1) := by decide +kernel
theorem d_Sc_append_14 : decode m_Sc_append.2.1 14 = .ok (.dup, 1) := by decide +kernel
theorem d_Sc_append_15 : decode m_Sc_append.2.1 15 = .ok (.getfield 18, 3) := by decide +kernel
theorem d_Sc_append_18 : decode m_Sc_append.2.1 18 = .ok (.iconst 1, 1) := by decide +kernel
theorem d_Sc_append_19 : decode m_Sc_append.2.1 19 = .ok (.iadd, 1) := by decide +kernel
theorem d_Sc_append_20 : decode m_Sc_append.2.1 20 = .ok (.putfield 18, 3) := by decide +kernel
theorem d_Sc_append_23 : decode m_Sc_append.2.1 23 = .ok (.aload_n 0, 1) := by decide +kernel
theorem d_Sc_append_24 : decode m_Sc_append.2.1 24 = .ok (.getfield 18, 3) := by decide +kernel
theorem d_Sc_append_27 : decode m_Sc_append.2.1 27 = .ok (.iconst 1, 1) := by decide +kernel
theorem d_Sc_append_28 : decode m_Sc_append.2.1 28 = .ok (.isub, 1) := by decide +kernel
theorem d_Sc_append_29 : decode m_Sc_append.2.1 29 = .ok (.ireturn, 1) := by decide +kernel
theorem d_Sc_at_0 : decode m_Sc_at.2.1 0 = .ok (.aload_n 0, 1) := by decide +kernel
theorem d_Sc_at_1 : decode m_Sc_at.2.1 1 = .ok (.getfield 11, 3) := by decide +kernel
theorem d_Sc_at_4 : decode m_Sc_at.2.1 4 = .ok (.iload_n 1, 1) := by decide +kernel
theorem d_Sc_at_5 : decode m_Sc_at.2.1 5 = .ok (.aaload, 1) := by decide +kernel
theorem d_Sc_at_6 : decode m_Sc_at.2.1 6 = .ok (.areturn, 1) := by decide +kernel
theorem d_Sc_takeOut_0 : decode m_Sc_takeOut.2.1 0 = .ok (.aload_n 0, 1) := by decide +kernel
theorem d_Sc_takeOut_1 : decode m_Sc_takeOut.2.1 1 = .ok (.getfield 11, 3) := by decide +kernel
theorem d_Sc_takeOut_4 : decode m_Sc_takeOut.2.1 4 = .ok (.iload_n 1, 1) := by decide +kernel
theorem d_Sc_takeOut_5 : decode m_Sc_takeOut.2.1 5 = .ok (.aaload, 1) := by decide +kernel
theorem d_Sc_takeOut_6 : decode m_Sc_takeOut.2.1 6 = .ok (.astore_n 2, 1) := by decide +kernel
theorem d_Sc_takeOut_7 : decode m_Sc_takeOut.2.1 7 = .ok (.iload_n 1, 1) := by decide +kernel
theorem d_Sc_takeOut_8 : decode m_Sc_takeOut.2.1 8 = .ok (.istore_n 3, 1) := by decide +kernel
theorem d_Sc_takeOut_9 : decode m_Sc_takeOut.2.1 9 = .ok (.iload_n 3, 1) := by decide +kernel
theorem d_Sc_takeOut_10 : decode m_Sc_takeOut.2.1 10 = .ok (.iconst 1, 1) := by decide +kernel
theorem d_Sc_takeOut_11 : decode m_Sc_takeOut.2.1 11 = .ok (.iadd, 1) := by decide +kernel
theorem d_Sc_takeOut_12 : decode m_Sc_takeOut.2.1 12 = .ok (.aload_n 0, 1) := by decide +kernel
theorem d_Sc_takeOut_13 : decode m_Sc_takeOut.2.1 13 = .ok (.getfield 18, 3) := by decide +kernel
theorem d_Sc_takeOut_16 : decode m_Sc_takeOut.2.1 16 = .ok (.if_icmp .ge 23, 3) := by decide +kernel
theorem d_Sc_takeOut_19 : decode m_Sc_takeOut.2.1 19 = .ok (.aload_n 0, 1) := by decide +kernel
theorem d_Sc_takeOut_20 : decode m_Sc_takeOut.2.1 20 = .ok (.getfield 11, 3) := by decide +kernel
theorem d_Sc_takeOut_23 : decode m_Sc_takeOut.2.1 23 = .ok (.iload_n 3, 1) := by decide +kernel
theorem d_Sc_takeOut_24 : decode m_Sc_takeOut.2.1 24 = .ok (.aload_n 0, 1) := by decide +kernel
theorem d_Sc_takeOut_25 : decode m_Sc_takeOut.2.1 25 = .ok (.getfield 11, 3) := by decide +kernel
theorem d_Sc_takeOut_28 : decode m_Sc_takeOut.2.1 28 = .ok (.iload_n 3, 1) := by decide +kernel
theorem d_Sc_takeOut_29 : decode m_Sc_takeOut.2.1 29 = .ok (.iconst 1, 1) := by decide +kernel
theorem d_Sc_takeOut_30 : decode m_Sc_takeOut.2.1 30 = .ok (.iadd, 1) := by decide +kernel
theorem d_Sc_takeOut_31 : decode m_Sc_takeOut.2.1 31 = .ok (.aaload, 1) := by decide +kernel
theorem d_Sc_takeOut_32 : decode m_Sc_takeOut.2.1 32 = .ok (.aastore, 1) := by decide +kernel
theorem d_Sc_takeOut_33 : decode m_Sc_takeOut.2.1 33 = .ok (.iinc 3 1, 3) := by decide +kernel
theorem d_Sc_takeOut_36 : decode m_Sc_takeOut.2.1 36 = .ok (.goto (-27), 3) := by decide +kernel
theorem d_Sc_takeOut_39 : decode m_Sc_takeOut.2.1 39 = .ok (.aload_n 0, 1) := by decide +kernel
theorem d_Sc_takeOut_40 : decode m_Sc_takeOut.2.1 40 = .ok (.dup, 1) := by decide +kernel
theorem d_Sc_takeOut_41 : decode m_Sc_takeOut.2.1 41 = .ok (.getfield 18, 3) := by decide +kernel
theorem d_Sc_takeOut_44 : decode m_Sc_takeOut.2.1 44 = .ok (.iconst 1, 1) := by decide +kernel
theorem d_Sc_takeOut_45 : decode m_Sc_takeOut.2.1 45 = .ok (.isub, 1) := by decide +kernel
theorem d_Sc_takeOut_46 : decode m_Sc_takeOut.2.1 46 = .ok (.putfield 18, 3) := by decide +kernel
theorem d_Sc_takeOut_49 : decode m_Sc_takeOut.2.1 49 = .ok (.aload_n 0, 1) := by decide +kernel
theorem d_Sc_takeOut_50 : decode m_Sc_takeOut.2.1 50 = .ok (.getfield 11, 3) := by decide +kernel
theorem d_Sc_takeOut_53 : decode m_Sc_takeOut.2.1 53 = .ok (.aload_n 0, 1) := by decide +kernel
theorem d_Sc_takeOut_54 : decode m_Sc_takeOut.2.1 54 = .ok (.getfield 18, 3) := by decide +kernel
theorem d_Sc_takeOut_57 : decode m_Sc_takeOut.2.1 57 = .ok (.aload_n 2, 1) := by decide +kernel
theorem d_Sc_takeOut_58 : decode m_Sc_takeOut.2.1 58 = .ok (.aastore, 1) := by decide +kernel
theorem d_Sc_takeOut_59 : decode m_Sc_takeOut.2.1 59 = .ok (.return_, 1) := by decide +kernel
theorem d_Sh_init_0 : decode m_Sh_init.2.1 0 = .ok (.aload_n 0, 1) := by decide +kernel
theorem d_Sh_init_1 : decode m_Sh_init.2.1 1 = .ok (.invokespecial 3, 3) := by decide +kernel
theorem d_Sh_init_4 : decode m_Sh_init.2.1 4 = .ok (.aload_n 0, 1) := by decide +kernel
theorem d_Sh_init_5 : decode m_Sh_init.2.1 5 = .ok (.iload_n 1, 1) := by decide +kernel
theorem d_Sh_init_6 : decode m_Sh_init.2.1 6 = .ok (.newarray .int, 2) := by decide +kernel
theorem d_Sh_init_8 : decode m_Sh_init.2.1 8 = .ok (.putfield 9, 3) := by decide +kernel
theorem d_Sh_init_11 : decode m_Sh_init.2.1 11 = .ok (.iconst 0, 1) := by decide +kernel
theorem d_Sh_init_12 : decode m_Sh_init.2.1 12 = .ok (.istore_n 2, 1) := by decide +kernel
theorem d_Sh_init_13 : decode m_Sh_init.2.1 13 = .ok (.iload_n 2, 1) := by decide +kernel
theorem d_Sh_init_14 : decode m_Sh_init.2.1 14 = .ok (.iload_n 1, 1) := by decide +kernel
theorem d_Sh_init_15 : decode m_Sh_init.2.1 15 = .ok (.if_icmp .ge 16, 3) := by decide +kernel
theorem d_Sh_init_18 : decode m_Sh_init.2.1 18 = .ok (.aload_n 0, 1) := by decide +kernel
theorem d_Sh_init_19 : decode m_Sh_init.2.1 19 = .ok (.getfield 9, 3) := by decide +kernel
theorem d_Sh_init_22 : decode m_Sh_init.2.1 22 = .ok (.iload_n 2, 1) := by decide +kernel
theorem d_Sh_init_23 : decode m_Sh_init.2.1 23 = .ok (.iconst (-1), 1) := by decide +kernel
theorem d_Sh_init_24 : decode m_Sh_init.2.1 24 = .ok (.iastore, 1) := by decide +kernel
theorem d_Sh_init_25 : decode m_Sh_init.2.1 25 = .ok (.iinc 2 1, 3) := by decide +kernel
theorem d_Sh_init_28 : decode m_Sh_init.2.1 28 = .ok (.goto (-15), 3) := by decide +kernel
theorem d_Sh_init_31 : decode m_Sh_init.2.1 31 = .ok (.aload_n 0, 1) := by decide +kernel
theorem d_Sh_init_32 : decode m_Sh_init.2.1 32 = .ok (.iload_n 1, 1) := by decide +kernel
theorem d_Sh_init_33 : decode m_Sh_init.2.1 33 = .ok (.bipush 6, 2) := by decide +kernel
theorem d_Sh_init_35 : decode m_Sh_init.2.1 35 = .ok (.imul, 1) := by decide +kernel
theorem d_Sh_init_36 : decode m_Sh_init.2.1 36 = .ok (.newarray .short, 2) := by decide +kernel
theorem d_Sh_init_38 : decode m_Sh_init.2.1 38 = .ok (.putfield 15, 3) := by decide +kernel
theorem d_Sh_init_41 : decode m_Sh_init.2.1 41 = .ok (.return_, 1) := by decide +kernel
theorem d_Sh_append_0 : decode m_Sh_append.2.1 0 = .ok (.aload_n 0, 1) := by decide +kernel
theorem d_Sh_append_1 : decode m_Sh_append.2.1 1 = .ok (.iload_n 1, 1) := by decide +kernel
theorem d_Sh_append_2 : decode m_Sh_append.2.1 2 = .ok (.invokevirtual 19, 3) := by decide +kernel
theorem d_Sh_append_5 : decode m_Sh_append.2.1 5 = .ok (.istore_n 3, 1) := by decide +kernel
theorem d_Sh_append_6 : decode m_Sh_append.2.1 6 = .ok (.iload_n 3, 1) := by decide +kernel
theorem d_Sh_append_7 : decode m_Sh_append.2.1 7 = .ok (.bipush 6, 2) := by decide +kernel
theorem d_Sh_append_9 : decode m_Sh_append.2.1 9 = .ok (.if_icmp .lt 5, 3) := by decide +kernel
theorem d_Sh_append_12 : decode m_Sh_append.2.1 12 = .ok (.iconst 0, 1) := by decide +kernel
theorem d_Sh_append_13 : decode m_Sh_append.2.1 13 = .ok (.ireturn, 1) := by decide +kernel
theorem d_Sh_append_14 : decode m_Sh_append.2.1 14 = .ok (.aload_n 0, 1) := by decide +kernel
theorem d_Sh_append_15 : decode m_Sh_append.2.1 15 = .ok (.getfield 15, 3) := by decide +kernel
theorem d_Sh_append_18 : decode m_Sh_append.2.1 18 = .ok (.iload_n 1, 1) := by decide +kernel
theorem d_Sh_append_19 : decode m_Sh_append.2.1 19 = .ok (.bipush 6, 2) := by decide +kernel
theorem d_Sh_append_21 : decode m_Sh_append.2.1 21 = .ok (.imul, 1) := by decide +kernel
theorem d_Sh_append_22 : decode m_Sh_append.2.1 22 = .ok (.iload_n 3, 1) := by decide +kernel
theorem d_Sh_append_23 : decode m_Sh_append.2.1 23 = .ok (.iadd, 1) := by decide +kernel
theorem d_Sh_append_24 : decode m_Sh_append.2.1 24 = .ok (.iload_n 2, 1) := by decide +kernel
theorem d_Sh_append_25 : decode m_Sh_append.2.1 25 = .ok (.sastore, 1) := by decide +kernel
theorem d_Sh_append_26 : decode m_Sh_append.2.1 26 = .ok (.aload_n 0, 1) := by decide +kernel
theorem d_Sh_append_27 : decode m_Sh_append.2.1 27 = .ok (.getfield 9, 3) := by decide +kernel
theorem d_Sh_append_30 : decode m_Sh_append.2.1 30 = .ok (.iload_n 1, 1) := by decide +kernel
theorem d_Sh_append_31 : decode m_Sh_append.2.1 31 = .ok (.iload_n 3, 1) := by decide +kernel
theorem d_Sh_append_32 : decode m_Sh_append.2.1 32 = .ok (.iconst 1, 1) := by decide +kernel
theorem d_Sh_append_33 : decode m_Sh_append.2.1 33 = .ok (.iadd, 1) := by decide +kernel
theorem d_Sh_append_34 : decode m_Sh_append.2.1 34 = .ok (.iastore, 1) := by decide +kernel
theorem d_Sh_append_35 : decode m_Sh_append.2.1 35 = .ok (.iconst 1, 1) := by decide +kernel
theorem d_Sh_append_36 : decode m_Sh_append.2.1 36 = .ok (.ireturn, 1) := by decide +kernel
theorem d_Sh_length_0 : decode m_Sh_length.2.1 0 = .ok (.aload_n 0, 1) := by decide +kernel
theorem d_Sh_length_1 : decode m_Sh_length.2.1 1 = .ok (.getfield 9, 3) := by decide +kernel
theorem d_Sh_length_4 : decode m_Sh_length.2.1 4 = .ok (.iload_n 1, 1) := by decide +kernel
theorem d_Sh_length_5 : decode m_Sh_length.2.1 5 = .ok (.iaload, 1) := by decide +kernel
theorem d_Sh_length_6 : decode m_Sh_length.2.1 6 = .ok (.ifCond .ge 7, 3) := by decide +kernel
theorem d_Sh_length_9 : decode m_Sh_length.2.1 9 = .ok (.iconst 0, 1) := by decide +kernel
theorem d_Sh_length_10 : decode m_Sh_length.2.1 10 = .ok (.goto 9, 3) := by decide +kernel
theorem d_Sh_length_13 : decode m_Sh_length.2.1 13 = .ok (.aload_n 0, 1) := by decide +kernel
theorem d_Sh_length_14 : decode m_Sh_length.2.1 14 = .ok (.getfield 9, 3) := by decide +kernel
theorem d_Sh_length_17 : decode m_Sh_length.2.1 17 = .ok (.iload_n 1, 1) := by decide +kernel
theorem d_Sh_length_18 : decode m_Sh_length.2.1 18 = .ok (.iaload, 1) := by decide +kernel
theorem d_Sh_length_19 : decode m_Sh_length.2.1 19 = .ok (.ireturn, 1) := by decide +kernel
theorem d_Sh_isThere_0 : decode m_Sh_isThere.2.1 0 = .ok (.aload_n 0, 1) := by decide +kernel
theorem d_Sh_isThere_1 : decode m_Sh_isThere.2.1 1 = .ok (.getfield 9, 3) := by decide +kernel
theorem d_Sh_isThere_4 : decode m_Sh_isThere.2.1 4 = .ok (.iload_n 1, 1) := by decide +kernel
theorem d_Sh_isThere_5 : decode m_Sh_isThere.2.1 5 = .ok (.iaload, 1) := by decide +kernel
theorem d_Sh_isThere_6 : decode m_Sh_isThere.2.1 6 = .ok (.iconst (-1), 1) := by decide +kernel
theorem d_Sh_isThere_7 : decode m_Sh_isThere.2.1 7 = .ok (.if_icmp .eq 7, 3) := by decide +kernel
theorem d_Sh_isThere_10 : decode m_Sh_isThere.2.1 10 = .ok (.iconst 1, 1) := by decide +kernel
theorem d_Sh_isThere_11 : decode m_Sh_isThere.2.1 11 = .ok (.goto 4, 3) := by decide +kernel
theorem d_Sh_isThere_14 : decode m_Sh_isThere.2.1 14 = .ok (.iconst 0, 1) := by decide +kernel
theorem d_Sh_isThere_15 : decode m_Sh_isThere.2.1 15 = .ok (.ireturn, 1) := by decide +kernel
theorem d_Sh_takeAway_0 : decode m_Sh_takeAway.2.1 0 = .ok (.aload_n 0, 1) := by decide +kernel
theorem d_Sh_takeAway_1 : decode m_Sh_takeAway.2.1 1 = .ok (.getfield 9, 3) := by decide +kernel
theorem d_Sh_takeAway_4 : decode m_Sh_takeAway.2.1 4 = .ok (.iload_n 1, 1) := by decide +kernel
theorem d_Sh_takeAway_5 : decode m_Sh_takeAway.2.1 5 = .ok (.iconst (-1), 1) := by decide +kernel
theorem d_Sh_takeAway_6 : decode m_Sh_takeAway.2.1 6 = .ok (.iastore, 1) := by decide +kernel
theorem d_Sh_takeAway_7 : decode m_Sh_takeAway.2.1 7 = .ok (.return_, 1) := by decide +kernel
theorem d_Sh_becomeAll_0 : decode m_Sh_becomeAll.2.1 0 = .ok (.iconst 0, 1) := by decide +kernel
theorem d_Sh_becomeAll_1 : decode m_Sh_becomeAll.2.1 1 = .ok (.istore_n 2, 1) := by decide +kernel
theorem d_Sh_becomeAll_2 : decode m_Sh_becomeAll.2.1 2 = .ok (.iload_n 2, 1) := by decide +kernel
theorem d_Sh_becomeAll_3 : decode m_Sh_becomeAll.2.1 3 = .ok (.bipush 12, 2) := by decide +kernel
theorem d_Sh_becomeAll_5 : decode m_Sh_becomeAll.2.1 5 = .ok (.if_icmp .ge 16, 3) := by decide +kernel
theorem d_Sh_becomeAll_8 : decode m_Sh_becomeAll.2.1 8 = .ok (.aload_n 0, 1) := by decide +kernel
theorem d_Sh_becomeAll_9 : decode m_Sh_becomeAll.2.1 9 = .ok (.iload_n 2, 1) := by decide +kernel
theorem d_Sh_becomeAll_10 : decode m_Sh_becomeAll.2.1 10 = .ok (.aload_n 1, 1) := by decide +kernel
theorem d_Sh_becomeAll_11 : decode m_Sh_becomeAll.2.1 11 = .ok (.iload_n 2, 1) := by decide +kernel
theorem d_Sh_becomeAll_12 : decode m_Sh_becomeAll.2.1 12 = .ok (.invokevirtual 23, 3) := by decide +kernel
theorem d_Sh_becomeAll_15 : decode m_Sh_becomeAll.2.1 15 = .ok (.iinc 2 1, 3) := by decide +kernel
theorem d_Sh_becomeAll_18 : decode m_Sh_becomeAll.2.1 18 = .ok (.goto (-16), 3) := by decide +kernel
theorem d_Sh_becomeAll_21 : decode m_Sh_becomeAll.2.1 21 = .ok (.return_, 1) := by decide +kernel
theorem d_Sh_become_0 : decode m_Sh_become.2.1 0 = .ok (.aload_n 0, 1) := by decide +kernel
theorem d_Sh_become_1 : decode m_Sh_become.2.1 1 = .ok (.getfield 9, 3) := by decide +kernel
theorem d_Sh_become_4 : decode m_Sh_become.2.1 4 = .ok (.iload_n 1, 1) := by decide +kernel
theorem d_Sh_become_5 : decode m_Sh_become.2.1 5 = .ok (.aload_n 2, 1) := by decide +kernel
theorem d_Sh_become_6 : decode m_Sh_become.2.1 6 = .ok (.getfield 9, 3) := by decide +kernel
theorem d_Sh_become_9 : decode m_Sh_become.2.1 9 = .ok (.iload_n 3, 1) := by decide +kernel
theorem d_Sh_become_10 : decode m_Sh_become.2.1 10 = .ok (.iaload, 1) := by decide +kernel
theorem d_Sh_become_11 : decode m_Sh_become.2.1 11 = .ok (.iastore, 1) := by decide +kernel
theorem d_Sh_become_12 : decode m_Sh_become.2.1 12 = .ok (.iconst 0, 1) := by decide +kernel
theorem d_Sh_become_13 : decode m_Sh_become.2.1 13 = .ok (.istore 4, 2) := by decide +kernel
theorem d_Sh_become_15 : decode m_Sh_become.2.1 15 = .ok (.iload 4, 2) := by decide +kernel
theorem d_Sh_become_17 : decode m_Sh_become.2.1 17 = .ok (.aload_n 0, 1) := by decide +kernel
theorem d_Sh_become_18 : decode m_Sh_become.2.1 18 = .ok (.getfield 9, 3) := by decide +kernel
theorem d_Sh_become_21 : decode m_Sh_become.2.1 21 = .ok (.iload_n 1, 1) := by decide +kernel
theorem d_Sh_become_22 : decode m_Sh_become.2.1 22 = .ok (.iaload, 1) := by decide +kernel
theorem d_Sh_become_23 : decode m_Sh_become.2.1 23 = .ok (.if_icmp .ge 33, 3) := by decide +kernel
theorem d_Sh_become_26 : decode m_Sh_become.2.1 26 = .ok (.aload_n 0, 1) := by decide +kernel
theorem d_Sh_become_27 : decode m_Sh_become.2.1 27 = .ok (.getfield 15, 3) := by decide +kernel
theorem d_Sh_become_30 : decode m_Sh_become.2.1 30 = .ok (.iload_n 1, 1) := by decide +kernel
theorem d_Sh_become_31 : decode m_Sh_become.2.1 31 = .ok (.bipush 6, 2) := by decide +kernel
theorem d_Sh_become_33 : decode m_Sh_become.2.1 33 = .ok (.imul, 1) := by decide +kernel
theorem d_Sh_become_34 : decode m_Sh_become.2.1 34 = .ok (.iload 4, 2) := by decide +kernel
theorem d_Sh_become_36 : decode m_Sh_become.2.1 36 = .ok (.iadd, 1) := by decide +kernel
theorem d_Sh_become_37 : decode m_Sh_become.2.1 37 = .ok (.aload_n 2, 1) := by decide +kernel
theorem d_Sh_become_38 : decode m_Sh_become.2.1 38 = .ok (.getfield 15, 3) := by decide +kernel
theorem d_Sh_become_41 : decode m_Sh_become.2.1 41 = .ok (.iload_n 3, 1) := by decide +kernel
theorem d_Sh_become_42 : decode m_Sh_become.2.1 42 = .ok (.bipush 6, 2) := by decide +kernel
theorem d_Sh_become_44 : decode m_Sh_become.2.1 44 = .ok (.imul, 1) := by decide +kernel
theorem d_Sh_become_45 : decode m_Sh_become.2.1 45 = .ok (.iload 4, 2) := by decide +kernel
theorem d_Sh_become_47 : decode m_Sh_become.2.1 47 = .ok (.iadd, 1) := by decide +kernel
theorem d_Sh_become_48 : decode m_Sh_become.2.1 48 = .ok (.saload, 1) := by decide +kernel
theorem d_Sh_become_49 : decode m_Sh_become.2.1 49 = .ok (.sastore, 1) := by decide +kernel
theorem d_Sh_become_50 : decode m_Sh_become.2.1 50 = .ok (.iinc 4 1, 3) := by decide +kernel
theorem d_Sh_become_53 : decode m_Sh_become.2.1 53 = .ok (.goto (-38), 3) := by decide +kernel
theorem d_Sh_become_56 : decode m_Sh_become.2.1 56 = .ok (.return_, 1) := by decide +kernel
theorem d_Sh_thoseThere_0 : decode m_Sh_thoseThere.2.1 0 = .ok (.iconst 0, 1) := by decide +kernel
theorem d_Sh_thoseThere_1 : decode m_Sh_thoseThere.2.1 1 = .ok (.istore_n 1, 1) := by decide +kernel
theorem d_Sh_thoseThere_2 : decode m_Sh_thoseThere.2.1 2 = .ok (.iconst 0, 1) := by decide +kernel
theorem d_Sh_thoseThere_3 : decode m_Sh_thoseThere.2.1 3 = .ok (.istore_n 2, 1) := by decide +kernel
theorem d_Sh_thoseThere_4 : decode m_Sh_thoseThere.2.1 4 = .ok (.iload_n 2, 1) := by decide +kernel
theorem d_Sh_thoseThere_5 : decode m_Sh_thoseThere.2.1 5 = .ok (.bipush 12, 2) := by decide +kernel
theorem d_Sh_thoseThere_7 : decode m_Sh_thoseThere.2.1 7 = .ok (.if_icmp .ge 25, 3) := by decide +kernel
theorem d_Sh_thoseThere_10 : decode m_Sh_thoseThere.2.1 10 = .ok (.aload_n 0, 1) := by decide +kernel
theorem d_Sh_thoseThere_11 : decode m_Sh_thoseThere.2.1 11 = .ok (.getfield 9, 3) := by decide +kernel
theorem d_Sh_thoseThere_14 : decode m_Sh_thoseThere.2.1 14 = .ok (.iload_n 2, 1) := by decide +kernel
theorem d_Sh_thoseThere_15 : decode m_Sh_thoseThere.2.1 15 = .ok (.iaload, 1) := by decide +kernel
theorem d_Sh_thoseThere_16 : decode m_Sh_thoseThere.2.1 16 = .ok (.iconst (-1), 1) := by decide +kernel
theorem d_Sh_thoseThere_17 : decode m_Sh_thoseThere.2.1 17 = .ok (.if_icmp .eq 9, 3) := by decide +kernel
theorem d_Sh_thoseThere_20 : decode m_Sh_thoseThere.2.1 20 = .ok (.iload_n 1, 1) := by decide +kernel
theorem d_Sh_thoseThere_21 : decode m_Sh_thoseThere.2.1 21 = .ok (.iconst 1, 1) := by decide +kernel
theorem d_Sh_thoseThere_22 : decode m_Sh_thoseThere.2.1 22 = .ok (.iload_n 2, 1) := by decide +kernel
theorem d_Sh_thoseThere_23 : decode m_Sh_thoseThere.2.1 23 = .ok (.ishl, 1) := by decide +kernel
theorem d_Sh_thoseThere_24 : decode m_Sh_thoseThere.2.1 24 = .ok (.ior, 1) := by decide +kernel
theorem d_Sh_thoseThere_25 : decode m_Sh_thoseThere.2.1 25 = .ok (.istore_n 1, 1) := by decide +kernel
theorem d_Sh_thoseThere_26 : decode m_Sh_thoseThere.2.1 26 = .ok (.iinc 2 1, 3) := by decide +kernel
theorem d_Sh_thoseThere_29 : decode m_Sh_thoseThere.2.1 29 = .ok (.goto (-25), 3) := by decide +kernel
theorem d_Sh_thoseThere_32 : decode m_Sh_thoseThere.2.1 32 = .ok (.iload_n 1, 1) := by decide +kernel
theorem d_Sh_thoseThere_33 : decode m_Sh_thoseThere.2.1 33 = .ok (.ireturn, 1) := by decide +kernel
theorem d_Sh_isSame_0 : decode m_Sh_isSame.2.1 0 = .ok (.aload_n 0, 1) := by decide +kernel
theorem d_Sh_isSame_1 : decode m_Sh_isSame.2.1 1 = .ok (.getfield 9, 3) := by decide +kernel
theorem d_Sh_isSame_4 : decode m_Sh_isSame.2.1 4 = .ok (.iload_n 1, 1) := by decide +kernel
theorem d_Sh_isSame_5 : decode m_Sh_isSame.2.1 5 = .ok (.iaload, 1) := by decide +kernel
theorem d_Sh_isSame_6 : decode m_Sh_isSame.2.1 6 = .ok (.aload_n 2, 1) := by decide +kernel
theorem d_Sh_isSame_7 : decode m_Sh_isSame.2.1 7 = .ok (.getfield 9, 3) := by decide +kernel
theorem d_Sh_isSame_10 : decode m_Sh_isSame.2.1 10 = .ok (.iload_n 3, 1) := by decide +kernel
theorem d_Sh_isSame_11 : decode m_Sh_isSame.2.1 11 = .ok (.iaload, 1) := by decide +kernel
theorem d_Sh_isSame_12 : decode m_Sh_isSame.2.1 12 = .ok (.if_icmp .eq 5, 3) := by decide +kernel
theorem d_Sh_isSame_15 : decode m_Sh_isSame.2.1 15 = .ok (.iconst 0, 1) := by decide +kernel
theorem d_Sh_isSame_16 : decode m_Sh_isSame.2.1 16 = .ok (.ireturn, 1) := by decide +kernel
theorem d_Sh_isSame_17 : decode m_Sh_isSame.2.1 17 = .ok (.iconst 0, 1) := by decide +kernel
theorem d_Sh_isSame_18 : decode m_Sh_isSame.2.1 18 = .ok (.istore 4, 2) := by decide +kernel
theorem d_Sh_isSame_20 : decode m_Sh_isSame.2.1 20 = .ok (.iload 4, 2) := by decide +kernel
theorem d_Sh_isSame_22 : decode m_Sh_isSame.2.1 22 = .ok (.aload_n 0, 1) := by decide +kernel
theorem d_Sh_isSame_23 : decode m_Sh_isSame.2.1 23 = .ok (.getfield 9, 3) := by decide +kernel
theorem d_Sh_isSame_26 : decode m_Sh_isSame.2.1 26 = .ok (.iload_n 1, 1) := by decide +kernel
theorem d_Sh_isSame_27 : decode m_Sh_isSame.2.1 27 = .ok (.iaload, 1) := by decide +kernel
theorem d_Sh_isSame_28 : decode m_Sh_isSame.2.1 28 = .ok (.if_icmp .ge 38, 3) := by decide +kernel
theorem d_Sh_isSame_31 : decode m_Sh_isSame.2.1 31 = .ok (.aload_n 0, 1) := by decide +kernel
theorem d_Sh_isSame_32 : decode m_Sh_isSame.2.1 32 = .ok (.getfield 15, 3) := by decide +kernel
theorem d_Sh_isSame_35 : decode m_Sh_isSame.2.1 35 = .ok (.iload_n 1, 1) := by decide +kernel
theorem d_Sh_isSame_36 : decode m_Sh_isSame.2.1 36 = .ok (.bipush 6, 2) := by decide +kernel
theorem d_Sh_isSame_38 : decode m_Sh_isSame.2.1 38 = .ok (.imul, 1) := by decide +kernel
theorem d_Sh_isSame_39 : decode m_Sh_isSame.2.1 39 = .ok (.iload 4, 2) := by decide +kernel
theorem d_Sh_isSame_41 : decode m_Sh_isSame.2.1 41 = .ok (.iadd, 1) := by decide +kernel
theorem d_Sh_isSame_42 : decode m_Sh_isSame.2.1 42 = .ok (.saload, 1) := by decide +kernel
theorem d_Sh_isSame_43 : decode m_Sh_isSame.2.1 43 = .ok (.aload_n 2, 1) := by decide +kernel
theorem d_Sh_isSame_44 : decode m_Sh_isSame.2.1 44 = .ok (.getfield 15, 3) := by decide +kernel
theorem d_Sh_isSame_47 : decode m_Sh_isSame.2.1 47 = .ok (.iload_n 3, 1) := by decide +kernel
theorem d_Sh_isSame_48 : decode m_Sh_isSame.2.1 48 = .ok (.bipush 6, 2) := by decide +kernel
theorem d_Sh_isSame_50 : decode m_Sh_isSame.2.1 50 = .ok (.imul, 1) := by decide +kernel
theorem d_Sh_isSame_51 : decode m_Sh_isSame.2.1 51 = .ok (.iload 4, 2) := by decide +kernel
theorem d_Sh_isSame_53 : decode m_Sh_isSame.2.1 53 = .ok (.iadd, 1) := by decide +kernel
theorem d_Sh_isSame_54 : decode m_Sh_isSame.2.1 54 = .ok (.saload, 1) := by decide +kernel
theorem d_Sh_isSame_55 : decode m_Sh_isSame.2.1 55 = .ok (.if_icmp .eq 5, 3) := by decide +kernel
theorem d_Sh_isSame_58 : decode m_Sh_isSame.2.1 58 = .ok (.iconst 0, 1) := by decide +kernel
theorem d_Sh_isSame_59 : decode m_Sh_isSame.2.1 59 = .ok (.ireturn, 1) := by decide +kernel
theorem d_Sh_isSame_60 : decode m_Sh_isSame.2.1 60 = .ok (.iinc 4 1, 3) := by decide +kernel
theorem d_Sh_isSame_63 : decode m_Sh_isSame.2.1 63 = .ok (.goto (-43), 3) := by decide +kernel
theorem d_Sh_isSame_66 : decode m_Sh_isSame.2.1 66 = .ok (.iconst 1, 1) := by decide +kernel
theorem d_Sh_isSame_67 : decode m_Sh_isSame.2.1 67 = .ok (.ireturn, 1) := by decide +kernel
theorem d_Sh_at_0 : decode m_Sh_at.2.1 0 = .ok (.aload_n 0, 1) := by decide +kernel
theorem d_Sh_at_1 : decode m_Sh_at.2.1 1 = .ok (.getfield 15, 3) := by decide +kernel
theorem d_Sh_at_4 : decode m_Sh_at.2.1 4 = .ok (.iload_n 1, 1) := by decide +kernel
theorem d_Sh_at_5 : decode m_Sh_at.2.1 5 = .ok (.bipush 6, 2) := by decide +kernel
theorem d_Sh_at_7 : decode m_Sh_at.2.1 7 = .ok (.imul, 1) := by decide +kernel
theorem d_Sh_at_8 : decode m_Sh_at.2.1 8 = .ok (.iload_n 2, 1) := by decide +kernel
theorem d_Sh_at_9 : decode m_Sh_at.2.1 9 = .ok (.iadd, 1) := by decide +kernel
theorem d_Sh_at_10 : decode m_Sh_at.2.1 10 = .ok (.saload, 1) := by decide +kernel
theorem d_Sh_at_11 : decode m_Sh_at.2.1 11 = .ok (.ireturn, 1) := by decide +kernel
theorem d_Sh_makeEmpty_0 : decode m_Sh_makeEmpty.2.1 0 = .ok (.aload_n 0, 1) := by decide +kernel
theorem d_Sh_makeEmpty_1 : decode m_Sh_makeEmpty.2.1 1 = .ok (.getfield 9, 3) := by decide +kernel
theorem d_Sh_makeEmpty_4 : decode m_Sh_makeEmpty.2.1 4 = .ok (.iload_n 1, 1) := by decide +kernel
theorem d_Sh_makeEmpty_5 : decode m_Sh_makeEmpty.2.1 5 = .ok (.iconst 0, 1) := by decide +kernel
theorem d_Sh_makeEmpty_6 : decode m_Sh_makeEmpty.2.1 6 = .ok (.iastore, 1) := by decide +kernel
theorem d_Sh_makeEmpty_7 : decode m_Sh_makeEmpty.2.1 7 = .ok (.return_, 1) := by decide +kernel
theorem d_Sh_sort_0 : decode m_Sh_sort.2.1 0 = .ok (.iload_n 1, 1) := by decide +kernel
theorem d_Sh_sort_1 : decode m_Sh_sort.2.1 1 = .ok (.bipush 6, 2) := by decide +kernel
theorem d_Sh_sort_3 : decode m_Sh_sort.2.1 3 = .ok (.imul, 1) := by decide +kernel
theorem d_Sh_sort_4 : decode m_Sh_sort.2.1 4 = .ok (.istore_n 2, 1) := by decide +kernel
theorem d_Sh_sort_5 : decode m_Sh_sort.2.1 5 = .ok (.iconst 1, 1) := by decide +kernel
theorem d_Sh_sort_6 : decode m_Sh_sort.2.1 6 = .ok (.istore_n 3, 1) := by decide +kernel
theorem d_Sh_sort_7 : decode m_Sh_sort.2.1 7 = .ok (.iload_n 3, 1) := by decide +kernel
theorem d_Sh_sort_8 : decode m_Sh_sort.2.1 8 = .ok (.aload_n 0, 1) := by decide +kernel
theorem d_Sh_sort_9 : decode m_Sh_sort.2.1 9 = .ok (.iload_n 1, 1) := by decide +kernel
theorem d_Sh_sort_10 : decode m_Sh_sort.2.1 10 = .ok (.invokevirtual 19, 3) := by decide +kernel
theorem d_Sh_sort_13 : decode m_Sh_sort.2.1 13 = .ok (.if_icmp .ge 80, 3) := by decide +kernel
theorem d_Sh_sort_16 : decode m_Sh_sort.2.1 16 = .ok (.aload_n 0, 1) := by decide +kernel
theorem d_Sh_sort_17 : decode m_Sh_sort.2.1 17 = .ok (.getfield 15, 3) := by decide +kernel
theorem d_Sh_sort_20 : decode m_Sh_sort.2.1 20 = .ok (.iload_n 2, 1) := by decide +kernel
theorem d_Sh_sort_21 : decode m_Sh_sort.2.1 21 = .ok (.iload_n 3, 1) := by decide +kernel
theorem d_Sh_sort_22 : decode m_Sh_sort.2.1 22 = .ok (.iadd, 1) := by decide +kernel
theorem d_Sh_sort_23 : decode m_Sh_sort.2.1 23 = .ok (.saload, 1) := by decide +kernel
theorem d_Sh_sort_24 : decode m_Sh_sort.2.1 24 = .ok (.istore 4, 2) := by decide +kernel
theorem d_Sh_sort_26 : decode m_Sh_sort.2.1 26 = .ok (.iload_n 3, 1) := by decide +kernel
theorem d_Sh_sort_27 : decode m_Sh_sort.2.1 27 = .ok (.istore 5, 2) := by decide +kernel
theorem d_Sh_sort_29 : decode m_Sh_sort.2.1 29 = .ok (.iload 5, 2) := by decide +kernel
theorem d_Sh_sort_31 : decode m_Sh_sort.2.1 31 = .ok (.ifCond .le 45, 3) := by decide +kernel
theorem d_Sh_sort_34 : decode m_Sh_sort.2.1 34 = .ok (.aload_n 0, 1) := by decide +kernel
theorem d_Sh_sort_35 : decode m_Sh_sort.2.1 35 = .ok (.getfield 15, 3) := by decide +kernel
theorem d_Sh_sort_38 : decode m_Sh_sort.2.1 38 = .ok (.iload_n 2, 1) := by decide +kernel
theorem d_Sh_sort_39 : decode m_Sh_sort.2.1 39 = .ok (.iload 5, 2) := by decide +kernel
theorem d_Sh_sort_41 : decode m_Sh_sort.2.1 41 = .ok (.iadd, 1) := by decide +kernel
theorem d_Sh_sort_42 : decode m_Sh_sort.2.1 42 = .ok (.iconst 1, 1) := by decide +kernel
theorem d_Sh_sort_43 : decode m_Sh_sort.2.1 43 = .ok (.isub, 1) := by decide +kernel
theorem d_Sh_sort_44 : decode m_Sh_sort.2.1 44 = .ok (.saload, 1) := by decide +kernel
theorem d_Sh_sort_45 : decode m_Sh_sort.2.1 45 = .ok (.iload 4, 2) := by decide +kernel
theorem d_Sh_sort_47 : decode m_Sh_sort.2.1 47 = .ok (.if_icmp .le 29, 3) := by decide +kernel
theorem d_Sh_sort_50 : decode m_Sh_sort.2.1 50 = .ok (.aload_n 0, 1) := by decide +kernel
theorem d_Sh_sort_51 : decode m_Sh_sort.2.1 51 = .ok (.getfield 15, 3) := by decide +kernel
theorem d_Sh_sort_54 : decode m_Sh_sort.2.1 54 = .ok (.iload_n 2, 1) := by decide +kernel
theorem d_Sh_sort_55 : decode m_Sh_sort.2.1 55 = .ok (.iload 5, 2) := by decide +kernel
theorem d_Sh_sort_57 : decode m_Sh_sort.2.1 57 = .ok (.iadd, 1) := by decide +kernel
theorem d_Sh_sort_58 : decode m_Sh_sort.2.1 58 = .ok (.aload_n 0, 1) := by decide +kernel
theorem d_Sh_sort_59 : decode m_Sh_sort.2.1 59 = .ok (.getfield 15, 3) := by decide +kernel
theorem d_Sh_sort_62 : decode m_Sh_sort.2.1 62 = .ok (.iload_n 2, 1) := by decide +kernel
theorem d_Sh_sort_63 : decode m_Sh_sort.2.1 63 = .ok (.iload 5, 2) := by decide +kernel
theorem d_Sh_sort_65 : decode m_Sh_sort.2.1 65 = .ok (.iadd, 1) := by decide +kernel
theorem d_Sh_sort_66 : decode m_Sh_sort.2.1 66 = .ok (.iconst 1, 1) := by decide +kernel
theorem d_Sh_sort_67 : decode m_Sh_sort.2.1 67 = .ok (.isub, 1) := by decide +kernel
theorem d_Sh_sort_68 : decode m_Sh_sort.2.1 68 = .ok (.saload, 1) := by decide +kernel
theorem d_Sh_sort_69 : decode m_Sh_sort.2.1 69 = .ok (.sastore, 1) := by decide +kernel
theorem d_Sh_sort_70 : decode m_Sh_sort.2.1 70 = .ok (.iinc 5 (-1), 3) := by decide +kernel
theorem d_Sh_sort_73 : decode m_Sh_sort.2.1 73 = .ok (.goto (-44), 3) := by decide +kernel
theorem d_Sh_sort_76 : decode m_Sh_sort.2.1 76 = .ok (.aload_n 0, 1) := by decide +kernel
theorem d_Sh_sort_77 : decode m_Sh_sort.2.1 77 = .ok (.getfield 15, 3) := by decide +kernel
theorem d_Sh_sort_80 : decode m_Sh_sort.2.1 80 = .ok (.iload_n 2, 1) := by decide +kernel
theorem d_Sh_sort_81 : decode m_Sh_sort.2.1 81 = .ok (.iload 5, 2) := by decide +kernel
theorem d_Sh_sort_83 : decode m_Sh_sort.2.1 83 = .ok (.iadd, 1) := by decide +kernel
theorem d_Sh_sort_84 : decode m_Sh_sort.2.1 84 = .ok (.iload 4, 2) := by decide +kernel
theorem d_Sh_sort_86 : decode m_Sh_sort.2.1 86 = .ok (.sastore, 1) := by decide +kernel
theorem d_Sh_sort_87 : decode m_Sh_sort.2.1 87 = .ok (.iinc 3 1, 3) := by decide +kernel
theorem d_Sh_sort_90 : decode m_Sh_sort.2.1 90 = .ok (.goto (-83), 3) := by decide +kernel
theorem d_Sh_sort_93 : decode m_Sh_sort.2.1 93 = .ok (.return_, 1) := by decide +kernel
theorem d_St_init_0 : decode m_St_init.2.1 0 = .ok (.aload_n 0, 1) := by decide +kernel
theorem d_St_init_1 : decode m_St_init.2.1 1 = .ok (.invokespecial 3, 3) := by decide +kernel
theorem d_St_init_4 : decode m_St_init.2.1 4 = .ok (.aload_n 0, 1) := by decide +kernel
theorem d_St_init_5 : decode m_St_init.2.1 5 = .ok (.bipush 24, 2) := by decide +kernel
theorem d_St_init_7 : decode m_St_init.2.1 7 = .ok (.anewarray 9, 3) := by decide +kernel
theorem d_St_init_10 : decode m_St_init.2.1 10 = .ok (.putfield 11, 3) := by decide +kernel
theorem d_St_init_13 : decode m_St_init.2.1 13 = .ok (.iconst 0, 1) := by decide +kernel
theorem d_St_init_14 : decode m_St_init.2.1 14 = .ok (.istore_n 1, 1) := by decide +kernel
theorem d_St_init_15 : decode m_St_init.2.1 15 = .ok (.iload_n 1, 1) := by decide +kernel
theorem d_St_init_16 : decode m_St_init.2.1 16 = .ok (.bipush 24, 2) := by decide +kernel
theorem d_St_init_18 : decode m_St_init.2.1 18 = .ok (.if_icmp .ge 22, 3) := by decide +kernel
theorem d_St_init_21 : decode m_St_init.2.1 21 = .ok (.aload_n 0, 1) := by decide +kernel
theorem d_St_init_22 : decode m_St_init.2.1 22 = .ok (.getfield 11, 3) := by decide +kernel
theorem d_St_init_25 : decode m_St_init.2.1 25 = .ok (.iload_n 1, 1) := by decide +kernel
theorem d_St_init_26 : decode m_St_init.2.1 26 = .ok (.new 9, 3) := by decide +kernel
theorem d_St_init_29 : decode m_St_init.2.1 29 = .ok (.dup, 1) := by decide +kernel
theorem d_St_init_30 : decode m_St_init.2.1 30 = .ok (.invokespecial 17, 3) := by decide +kernel
theorem d_St_init_33 : decode m_St_init.2.1 33 = .ok (.aastore, 1) := by decide +kernel
theorem d_St_init_34 : decode m_St_init.2.1 34 = .ok (.iinc 1 1, 3) := by decide +kernel
theorem d_St_init_37 : decode m_St_init.2.1 37 = .ok (.goto (-22), 3) := by decide +kernel
theorem d_St_init_40 : decode m_St_init.2.1 40 = .ok (.aload_n 0, 1) := by decide +kernel
theorem d_St_init_41 : decode m_St_init.2.1 41 = .ok (.iconst 0, 1) := by decide +kernel
theorem d_St_init_42 : decode m_St_init.2.1 42 = .ok (.putfield 18, 3) := by decide +kernel
theorem d_St_init_45 : decode m_St_init.2.1 45 = .ok (.return_, 1) := by decide +kernel
theorem d_St_length_0 : decode m_St_length.2.1 0 = .ok (.aload_n 0, 1) := by decide +kernel
theorem d_St_length_1 : decode m_St_length.2.1 1 = .ok (.getfield 18, 3) := by decide +kernel
theorem d_St_length_4 : decode m_St_length.2.1 4 = .ok (.ireturn, 1) := by decide +kernel
theorem d_St_cutTo_0 : decode m_St_cutTo.2.1 0 = .ok (.iload_n 1, 1) := by decide +kernel
theorem d_St_cutTo_1 : decode m_St_cutTo.2.1 1 = .ok (.ifCond .lt 11, 3) := by decide +kernel
theorem d_St_cutTo_4 : decode m_St_cutTo.2.1 4 = .ok (.iload_n 1, 1) := by decide +kernel
theorem d_St_cutTo_5 : decode m_St_cutTo.2.1 5 = .ok (.aload_n 0, 1) := by decide +kernel
theorem d_St_cutTo_6 : decode m_St_cutTo.2.1 6 = .ok (.getfield 18, 3) := by decide +kernel
theorem d_St_cutTo_9 : decode m_St_cutTo.2.1 9 = .ok (.if_icmp .lt 5, 3) := by decide +kernel
theorem d_St_cutTo_12 : decode m_St_cutTo.2.1 12 = .ok (.iconst 0, 1) := by decide +kernel
theorem d_St_cutTo_13 : decode m_St_cutTo.2.1 13 = .ok (.ireturn, 1) := by decide +kernel
theorem d_St_cutTo_14 : decode m_St_cutTo.2.1 14 = .ok (.aload_n 0, 1) := by decide +kernel
theorem d_St_cutTo_15 : decode m_St_cutTo.2.1 15 = .ok (.iload_n 1, 1) := by decide +kernel
theorem d_St_cutTo_16 : decode m_St_cutTo.2.1 16 = .ok (.putfield 18, 3) := by decide +kernel
theorem d_St_cutTo_19 : decode m_St_cutTo.2.1 19 = .ok (.iconst 1, 1) := by decide +kernel
theorem d_St_cutTo_20 : decode m_St_cutTo.2.1 20 = .ok (.ireturn, 1) := by decide +kernel
theorem d_St_keepLatest_0 : decode m_St_keepLatest.2.1 0 = .ok (.aload_n 0, 1) := by decide +kernel
theorem d_St_keepLatest_1 : decode m_St_keepLatest.2.1 1 = .ok (.getfield 18, 3) := by decide +kernel
theorem d_St_keepLatest_4 : decode m_St_keepLatest.2.1 4 = .ok (.istore_n 1, 1) := by decide +kernel
theorem d_St_keepLatest_5 : decode m_St_keepLatest.2.1 5 = .ok (.iconst 0, 1) := by decide +kernel
theorem d_St_keepLatest_6 : decode m_St_keepLatest.2.1 6 = .ok (.istore_n 2, 1) := by decide +kernel
theorem d_St_keepLatest_7 : decode m_St_keepLatest.2.1 7 = .ok (.iconst 0, 1) := by decide +kernel
theorem d_St_keepLatest_8 : decode m_St_keepLatest.2.1 8 = .ok (.istore_n 3, 1) := by decide +kernel
theorem d_St_keepLatest_9 : decode m_St_keepLatest.2.1 9 = .ok (.iload_n 3, 1) := by decide +kernel
theorem d_St_keepLatest_10 : decode m_St_keepLatest.2.1 10 = .ok (.iload_n 1, 1) := by decide +kernel
theorem d_St_keepLatest_11 : decode m_St_keepLatest.2.1 11 = .ok (.if_icmp .ge 26, 3) := by decide +kernel
theorem d_St_keepLatest_14 : decode m_St_keepLatest.2.1 14 = .ok (.aload_n 0, 1) := by decide +kernel
theorem d_St_keepLatest_15 : decode m_St_keepLatest.2.1 15 = .ok (.iload_n 3, 1) := by decide +kernel
theorem d_St_keepLatest_16 : decode m_St_keepLatest.2.1 16 = .ok (.invokevirtual 45, 3) := by decide +kernel
theorem d_St_keepLatest_19 : decode m_St_keepLatest.2.1 19 = .ok (.ifCond .ne 12, 3) := by decide +kernel
theorem d_St_keepLatest_22 : decode m_St_keepLatest.2.1 22 = .ok (.aload_n 0, 1) := by decide +kernel
theorem d_St_keepLatest_23 : decode m_St_keepLatest.2.1 23 = .ok (.iload_n 2, 1) := by decide +kernel
theorem d_St_keepLatest_24 : decode m_St_keepLatest.2.1 24 = .ok (.iload_n 3, 1) := by decide +kernel
theorem d_St_keepLatest_25 : decode m_St_keepLatest.2.1 25 = .ok (.invokevirtual 49, 3) := by decide +kernel
theorem d_St_keepLatest_28 : decode m_St_keepLatest.2.1 28 = .ok (.iinc 2 1, 3) := by decide +kernel
theorem d_St_keepLatest_31 : decode m_St_keepLatest.2.1 31 = .ok (.iinc 3 1, 3) := by decide +kernel
theorem d_St_keepLatest_34 : decode m_St_keepLatest.2.1 34 = .ok (.goto (-25), 3) := by decide +kernel
theorem d_St_keepLatest_37 : decode m_St_keepLatest.2.1 37 = .ok (.aload_n 0, 1) := by decide +kernel
theorem d_St_keepLatest_38 : decode m_St_keepLatest.2.1 38 = .ok (.iload_n 2, 1) := by decide +kernel
theorem d_St_keepLatest_39 : decode m_St_keepLatest.2.1 39 = .ok (.putfield 18, 3) := by decide +kernel
theorem d_St_keepLatest_42 : decode m_St_keepLatest.2.1 42 = .ok (.iload_n 1, 1) := by decide +kernel
theorem d_St_keepLatest_43 : decode m_St_keepLatest.2.1 43 = .ok (.iload_n 2, 1) := by decide +kernel
theorem d_St_keepLatest_44 : decode m_St_keepLatest.2.1 44 = .ok (.isub, 1) := by decide +kernel
theorem d_St_keepLatest_45 : decode m_St_keepLatest.2.1 45 = .ok (.ireturn, 1) := by decide +kernel
theorem d_St_isFollowedByItsLike_0 : decode m_St_isFollowedByItsLike.2.1 0 = .ok (.iload_n 1, 1) := by decide +kernel
theorem d_St_isFollowedByItsLike_1 : decode m_St_isFollowedByItsLike.2.1 1 = .ok (.iconst 1, 1) := by decide +kernel
theorem d_St_isFollowedByItsLike_2 : decode m_St_isFollowedByItsLike.2.1 2 = .ok (.iadd, 1) := by decide +kernel
theorem d_St_isFollowedByItsLike_3 : decode m_St_isFollowedByItsLike.2.1 3 = .ok (.istore_n 2, 1) := by decide +kernel
theorem d_St_isFollowedByItsLike_4 : decode m_St_isFollowedByItsLike.2.1 4 = .ok (.iload_n 2, 1) := by decide +kernel
theorem d_St_isFollowedByItsLike_5 : decode m_St_isFollowedByItsLike.2.1 5 = .ok (.aload_n 0, 1) := by decide +kernel
theorem d_St_isFollowedByItsLike_6 : decode m_St_isFollowedByItsLike.2.1 6 = .ok (.getfield 18, 3) := by decide +kernel
theorem d_St_isFollowedByItsLike_9 : decode m_St_isFollowedByItsLike.2.1 9 = .ok (.if_icmp .ge 32, 3) := by decide +kernel
theorem d_St_isFollowedByItsLike_12 : decode m_St_isFollowedByItsLike.2.1 12 = .ok (.aload_n 0, 1) := by decide +kernel
theorem d_St_isFollowedByItsLike_13 : decode m_St_isFollowedByItsLike.2.1 13 = .ok (.getfield 11, 3) := by decide +kernel
theorem d_St_isFollowedByItsLike_16 : decode m_St_isFollowedByItsLike.2.1 16 = .ok (.iload_n 2, 1) := by decide +kernel
theorem d_St_isFollowedByItsLike_17 : decode m_St_isFollowedByItsLike.2.1 17 = .ok (.aaload, 1) := by decide +kernel
theorem d_St_isFollowedByItsLike_18 : decode m_St_isFollowedByItsLike.2.1 18 = .ok (.aload_n 0, 1) := by decide +kernel
theorem d_St_isFollowedByItsLike_19 : decode m_St_isFollowedByItsLike.2.1 19 = .ok (.getfield 11, 3) := by decide +kernel
theorem d_St_isFollowedByItsLike_22 : decode m_St_isFollowedByItsLike.2.1 22 = .ok (.iload_n 1, 1) := by decide +kernel
theorem d_St_isFollowedByItsLike_23 : decode m_St_isFollowedByItsLike.2.1 23 = .ok (.aaload, 1) := by decide +kernel
theorem d_St_isFollowedByItsLike_24 : decode m_St_isFollowedByItsLike.2.1 24 = .ok (.getfield 53, 3) := by decide +kernel
theorem d_St_isFollowedByItsLike_27 : decode m_St_isFollowedByItsLike.2.1 27 = .ok (.invokevirtual 22, 3) := by decide +kernel
theorem d_St_isFollowedByItsLike_30 : decode m_St_isFollowedByItsLike.2.1 30 = .ok (.ifCond .eq 5, 3) := by decide +kernel
theorem d_St_isFollowedByItsLike_33 : decode m_St_isFollowedByItsLike.2.1 33 = .ok (.iconst 1, 1) := by decide +kernel
theorem d_St_isFollowedByItsLike_34 : decode m_St_isFollowedByItsLike.2.1 34 = .ok (.ireturn, 1) := by decide +kernel
theorem d_St_isFollowedByItsLike_35 : decode m_St_isFollowedByItsLike.2.1 35 = .ok (.iinc 2 1, 3) := by decide +kernel
theorem d_St_isFollowedByItsLike_38 : decode m_St_isFollowedByItsLike.2.1 38 = .ok (.goto (-34), 3) := by decide +kernel
theorem d_St_isFollowedByItsLike_41 : decode m_St_isFollowedByItsLike.2.1 41 = .ok (.iconst 0, 1) := by decide +kernel
theorem d_St_isFollowedByItsLike_42 : decode m_St_isFollowedByItsLike.2.1 42 = .ok (.ireturn, 1) := by decide +kernel
theorem d_St_swap_0 : decode m_St_swap.2.1 0 = .ok (.aload_n 0, 1) := by decide +kernel
theorem d_St_swap_1 : decode m_St_swap.2.1 1 = .ok (.getfield 11, 3) := by decide +kernel
theorem d_St_swap_4 : decode m_St_swap.2.1 4 = .ok (.iload_n 1, 1) := by decide +kernel
theorem d_St_swap_5 : decode m_St_swap.2.1 5 = .ok (.aaload, 1) := by decide +kernel
theorem d_St_swap_6 : decode m_St_swap.2.1 6 = .ok (.astore_n 3, 1) := by decide +kernel
theorem d_St_swap_7 : decode m_St_swap.2.1 7 = .ok (.aload_n 0, 1) := by decide +kernel
theorem d_St_swap_8 : decode m_St_swap.2.1 8 = .ok (.getfield 11, 3) := by decide +kernel
theorem d_St_swap_11 : decode m_St_swap.2.1 11 = .ok (.iload_n 1, 1) := by decide +kernel
theorem d_St_swap_12 : decode m_St_swap.2.1 12 = .ok (.aload_n 0, 1) := by decide +kernel
theorem d_St_swap_13 : decode m_St_swap.2.1 13 = .ok (.getfield 11, 3) := by decide +kernel
theorem d_St_swap_16 : decode m_St_swap.2.1 16 = .ok (.iload_n 2, 1) := by decide +kernel
theorem d_St_swap_17 : decode m_St_swap.2.1 17 = .ok (.aaload, 1) := by decide +kernel
theorem d_St_swap_18 : decode m_St_swap.2.1 18 = .ok (.aastore, 1) := by decide +kernel
theorem d_St_swap_19 : decode m_St_swap.2.1 19 = .ok (.aload_n 0, 1) := by decide +kernel
theorem d_St_swap_20 : decode m_St_swap.2.1 20 = .ok (.getfield 11, 3) := by decide +kernel
theorem d_St_swap_23 : decode m_St_swap.2.1 23 = .ok (.iload_n 2, 1) := by decide +kernel
theorem d_St_swap_24 : decode m_St_swap.2.1 24 = .ok (.aload_n 3, 1) := by decide +kernel
theorem d_St_swap_25 : decode m_St_swap.2.1 25 = .ok (.aastore, 1) := by decide +kernel
theorem d_St_swap_26 : decode m_St_swap.2.1 26 = .ok (.return_, 1) := by decide +kernel
theorem d_St_fitting_0 : decode m_St_fitting.2.1 0 = .ok (.aload_n 0, 1) := by decide +kernel
theorem d_St_fitting_1 : decode m_St_fitting.2.1 1 = .ok (.getfield 18, 3) := by decide +kernel
theorem d_St_fitting_4 : decode m_St_fitting.2.1 4 = .ok (.iconst 1, 1) := by decide +kernel
theorem d_St_fitting_5 : decode m_St_fitting.2.1 5 = .ok (.isub, 1) := by decide +kernel
theorem d_St_fitting_6 : decode m_St_fitting.2.1 6 = .ok (.istore_n 3, 1) := by decide +kernel
theorem d_St_fitting_7 : decode m_St_fitting.2.1 7 = .ok (.iload_n 3, 1) := by decide +kernel
theorem d_St_fitting_8 : decode m_St_fitting.2.1 8 = .ok (.ifCond .lt 42, 3) := by decide +kernel
theorem d_St_fitting_11 : decode m_St_fitting.2.1 11 = .ok (.aload_n 0, 1) := by decide +kernel
theorem d_St_fitting_12 : decode m_St_fitting.2.1 12 = .ok (.getfield 11, 3) := by decide +kernel
theorem d_St_fitting_15 : decode m_St_fitting.2.1 15 = .ok (.iload_n 3, 1) := by decide +kernel
theorem d_St_fitting_16 : decode m_St_fitting.2.1 16 = .ok (.aaload, 1) := by decide +kernel
theorem d_St_fitting_17 : decode m_St_fitting.2.1 17 = .ok (.aload_n 1, 1) := by decide +kernel
theorem d_St_fitting_18 : decode m_St_fitting.2.1 18 = .ok (.invokevirtual 22, 3) := by decide +kernel
theorem d_St_fitting_21 : decode m_St_fitting.2.1 21 = .ok (.ifCond .eq 23, 3) := by decide +kernel
theorem d_St_fitting_24 : decode m_St_fitting.2.1 24 = .ok (.aload_n 0, 1) := by decide +kernel
theorem d_St_fitting_25 : decode m_St_fitting.2.1 25 = .ok (.getfield 11, 3) := by decide +kernel
theorem d_St_fitting_28 : decode m_St_fitting.2.1 28 = .ok (.iload_n 3, 1) := by decide +kernel
theorem d_St_fitting_29 : decode m_St_fitting.2.1 29 = .ok (.aaload, 1) := by decide +kernel
theorem d_St_fitting_30 : decode m_St_fitting.2.1 30 = .ok (.aload_n 2, 1) := by decide +kernel
theorem d_St_fitting_31 : decode m_St_fitting.2.1 31 = .ok (.invokevirtual 26, 3) := by decide +kernel
theorem d_St_fitting_34 : decode m_St_fitting.2.1 34 = .ok (.ifCond .eq 10, 3) := by decide +kernel
theorem d_St_fitting_37 : decode m_St_fitting.2.1 37 = .ok (.aload_n 0, 1) := by decide +kernel
theorem d_St_fitting_38 : decode m_St_fitting.2.1 38 = .ok (.getfield 11, 3) := by decide +kernel
theorem d_St_fitting_41 : decode m_St_fitting.2.1 41 = .ok (.iload_n 3, 1) := by decide +kernel
theorem d_St_fitting_42 : decode m_St_fitting.2.1 42 = .ok (.aaload, 1) := by decide +kernel
theorem d_St_fitting_43 : decode m_St_fitting.2.1 43 = .ok (.areturn, 1) := by decide +kernel
theorem d_St_fitting_44 : decode m_St_fitting.2.1 44 = .ok (.iinc 3 (-1), 3) := by decide +kernel
theorem d_St_fitting_47 : decode m_St_fitting.2.1 47 = .ok (.goto (-40), 3) := by decide +kernel
theorem d_St_fitting_50 : decode m_St_fitting.2.1 50 = .ok (.aconst_null, 1) := by decide +kernel
theorem d_St_fitting_51 : decode m_St_fitting.2.1 51 = .ok (.areturn, 1) := by decide +kernel
theorem d_St_reasonToRun_0 : decode m_St_reasonToRun.2.1 0 = .ok (.aload_n 0, 1) := by decide +kernel
theorem d_St_reasonToRun_1 : decode m_St_reasonToRun.2.1 1 = .ok (.aload_n 1, 1) := by decide +kernel
theorem d_St_reasonToRun_2 : decode m_St_reasonToRun.2.1 2 = .ok (.invokevirtual 30, 3) := by decide +kernel
theorem d_St_reasonToRun_5 : decode m_St_reasonToRun.2.1 5 = .ok (.astore_n 3, 1) := by decide +kernel
theorem d_St_reasonToRun_6 : decode m_St_reasonToRun.2.1 6 = .ok (.aload_n 3, 1) := by decide +kernel
theorem d_St_reasonToRun_7 : decode m_St_reasonToRun.2.1 7 = .ok (.ifnonnull 6, 3) := by decide +kernel
theorem d_St_reasonToRun_10 : decode m_St_reasonToRun.2.1 10 = .ok (.bipush 12, 2) := by decide +kernel
theorem d_St_reasonToRun_12 : decode m_St_reasonToRun.2.1 12 = .ok (.ireturn, 1) := by decide +kernel
theorem d_St_reasonToRun_13 : decode m_St_reasonToRun.2.1 13 = .ok (.aload_n 3, 1) := by decide +kernel
theorem d_St_reasonToRun_14 : decode m_St_reasonToRun.2.1 14 = .ok (.aload_n 2, 1) := by decide +kernel
theorem d_St_reasonToRun_15 : decode m_St_reasonToRun.2.1 15 = .ok (.invokevirtual 34, 3) := by decide +kernel
theorem d_St_reasonToRun_18 : decode m_St_reasonToRun.2.1 18 = .ok (.istore 4, 2) := by decide +kernel
theorem d_St_reasonToRun_20 : decode m_St_reasonToRun.2.1 20 = .ok (.iload 4, 2) := by decide +kernel
theorem d_St_reasonToRun_22 : decode m_St_reasonToRun.2.1 22 = .ok (.ifCond .eq 8, 3) := by decide +kernel
theorem d_St_reasonToRun_25 : decode m_St_reasonToRun.2.1 25 = .ok (.iload 4, 2) := by decide +kernel
theorem d_St_reasonToRun_27 : decode m_St_reasonToRun.2.1 27 = .ok (.goto 8, 3) := by decide +kernel
theorem d_St_reasonToRun_30 : decode m_St_reasonToRun.2.1 30 = .ok (.aload_n 3, 1) := by decide +kernel
theorem d_St_reasonToRun_31 : decode m_St_reasonToRun.2.1 31 = .ok (.aload_n 2, 1) := by decide +kernel
theorem d_St_reasonToRun_32 : decode m_St_reasonToRun.2.1 32 = .ok (.invokevirtual 38, 3) := by decide +kernel
theorem d_St_reasonToRun_35 : decode m_St_reasonToRun.2.1 35 = .ok (.invokestatic 41, 3) := by decide +kernel
theorem d_St_reasonToRun_38 : decode m_St_reasonToRun.2.1 38 = .ok (.ireturn, 1) := by decide +kernel
theorem d_St_latest_0 : decode m_St_latest.2.1 0 = .ok (.aload_n 0, 1) := by decide +kernel
theorem d_St_latest_1 : decode m_St_latest.2.1 1 = .ok (.getfield 18, 3) := by decide +kernel
theorem d_St_latest_4 : decode m_St_latest.2.1 4 = .ok (.iconst 1, 1) := by decide +kernel
theorem d_St_latest_5 : decode m_St_latest.2.1 5 = .ok (.isub, 1) := by decide +kernel
theorem d_St_latest_6 : decode m_St_latest.2.1 6 = .ok (.istore_n 2, 1) := by decide +kernel
theorem d_St_latest_7 : decode m_St_latest.2.1 7 = .ok (.iload_n 2, 1) := by decide +kernel
theorem d_St_latest_8 : decode m_St_latest.2.1 8 = .ok (.ifCond .lt 29, 3) := by decide +kernel
theorem d_St_latest_11 : decode m_St_latest.2.1 11 = .ok (.aload_n 0, 1) := by decide +kernel
theorem d_St_latest_12 : decode m_St_latest.2.1 12 = .ok (.getfield 11, 3) := by decide +kernel
theorem d_St_latest_15 : decode m_St_latest.2.1 15 = .ok (.iload_n 2, 1) := by decide +kernel
theorem d_St_latest_16 : decode m_St_latest.2.1 16 = .ok (.aaload, 1) := by decide +kernel
theorem d_St_latest_17 : decode m_St_latest.2.1 17 = .ok (.aload_n 1, 1) := by decide +kernel
theorem d_St_latest_18 : decode m_St_latest.2.1 18 = .ok (.invokevirtual 22, 3) := by decide +kernel
theorem d_St_latest_21 : decode m_St_latest.2.1 21 = .ok (.ifCond .eq 10, 3) := by decide +kernel
theorem d_St_latest_24 : decode m_St_latest.2.1 24 = .ok (.aload_n 0, 1) := by decide +kernel
theorem d_St_latest_25 : decode m_St_latest.2.1 25 = .ok (.getfield 11, 3) := by decide +kernel
theorem d_St_latest_28 : decode m_St_latest.2.1 28 = .ok (.iload_n 2, 1) := by decide +kernel
theorem d_St_latest_29 : decode m_St_latest.2.1 29 = .ok (.aaload, 1) := by decide +kernel
theorem d_St_latest_30 : decode m_St_latest.2.1 30 = .ok (.areturn, 1) := by decide +kernel
theorem d_St_latest_31 : decode m_St_latest.2.1 31 = .ok (.iinc 2 (-1), 3) := by decide +kernel
theorem d_St_latest_34 : decode m_St_latest.2.1 34 = .ok (.goto (-27), 3) := by decide +kernel
theorem d_St_latest_37 : decode m_St_latest.2.1 37 = .ok (.aconst_null, 1) := by decide +kernel
theorem d_St_latest_38 : decode m_St_latest.2.1 38 = .ok (.areturn, 1) := by decide +kernel
theorem d_St_append_0 : decode m_St_append.2.1 0 = .ok (.aload_n 0, 1) := by decide +kernel
theorem d_St_append_1 : decode m_St_append.2.1 1 = .ok (.getfield 18, 3) := by decide +kernel
theorem d_St_append_4 : decode m_St_append.2.1 4 = .ok (.bipush 24, 2) := by decide +kernel
theorem d_St_append_6 : decode m_St_append.2.1 6 = .ok (.if_icmp .ge 25, 3) := by decide +kernel
theorem d_St_append_9 : decode m_St_append.2.1 9 = .ok (.aload_n 0, 1) := by decide +kernel
theorem d_St_append_10 : decode m_St_append.2.1 10 = .ok (.dup, 1) := by decide +kernel
theorem d_St_append_11 : decode m_St_append.2.1 11 = .ok (.getfield 18, 3) := by decide +kernel
theorem d_St_append_14 : decode m_St_append.2.1 14 = .ok (.iconst 1, 1) := by decide +kernel
theorem d_St_append_15 : decode m_St_append.2.1 15 = .ok (.iadd, 1) := by decide +kernel
theorem d_St_append_16 : decode m_St_append.2.1 16 = .ok (.putfield 18, 3) := by decide +kernel
theorem d_St_append_19 : decode m_St_append.2.1 19 = .ok (.aload_n 0, 1) := by decide +kernel
theorem d_St_append_20 : decode m_St_append.2.1 20 = .ok (.getfield 11, 3) := by decide +kernel
theorem d_St_append_23 : decode m_St_append.2.1 23 = .ok (.aload_n 0, 1) := by decide +kernel
theorem d_St_append_24 : decode m_St_append.2.1 24 = .ok (.getfield 18, 3) := by decide +kernel
theorem d_St_append_27 : decode m_St_append.2.1 27 = .ok (.iconst 1, 1) := by decide +kernel
theorem d_St_append_28 : decode m_St_append.2.1 28 = .ok (.isub, 1) := by decide +kernel
theorem d_St_append_29 : decode m_St_append.2.1 29 = .ok (.aaload, 1) := by decide +kernel
theorem d_St_append_30 : decode m_St_append.2.1 30 = .ok (.areturn, 1) := by decide +kernel
theorem d_St_append_31 : decode m_St_append.2.1 31 = .ok (.aload_n 0, 1) := by decide +kernel
theorem d_St_append_32 : decode m_St_append.2.1 32 = .ok (.getfield 11, 3) := by decide +kernel
theorem d_St_append_35 : decode m_St_append.2.1 35 = .ok (.iconst 0, 1) := by decide +kernel
theorem d_St_append_36 : decode m_St_append.2.1 36 = .ok (.aaload, 1) := by decide +kernel
theorem d_St_append_37 : decode m_St_append.2.1 37 = .ok (.astore_n 1, 1) := by decide +kernel
theorem d_St_append_38 : decode m_St_append.2.1 38 = .ok (.iconst 0, 1) := by decide +kernel
theorem d_St_append_39 : decode m_St_append.2.1 39 = .ok (.istore_n 2, 1) := by decide +kernel
theorem d_St_append_40 : decode m_St_append.2.1 40 = .ok (.iload_n 2, 1) := by decide +kernel
theorem d_St_append_41 : decode m_St_append.2.1 41 = .ok (.iconst 1, 1) := by decide +kernel
theorem d_St_append_42 : decode m_St_append.2.1 42 = .ok (.iadd, 1) := by decide +kernel
theorem d_St_append_43 : decode m_St_append.2.1 43 = .ok (.bipush 24, 2) := by decide +kernel
theorem d_St_append_45 : decode m_St_append.2.1 45 = .ok (.if_icmp .ge 23, 3) := by decide +kernel
theorem d_St_append_48 : decode m_St_append.2.1 48 = .ok (.aload_n 0, 1) := by decide +kernel
theorem d_St_append_49 : decode m_St_append.2.1 49 = .ok (.getfield 11, 3) := by decide +kernel
theorem d_St_append_52 : decode m_St_append.2.1 52 = .ok (.iload_n 2, 1) := by decide +kernel
theorem d_St_append_53 : decode m_St_append.2.1 53 = .ok (.aload_n 0, 1) := by decide +kernel
theorem d_St_append_54 : decode m_St_append.2.1 54 = .ok (.getfield 11, 3) := by decide +kernel
theorem d_St_append_57 : decode m_St_append.2.1 57 = .ok (.iload_n 2, 1) := by decide +kernel
theorem d_St_append_58 : decode m_St_append.2.1 58 = .ok (.iconst 1, 1) := by decide +kernel
theorem d_St_append_59 : decode m_St_append.2.1 59 = .ok (.iadd, 1) := by decide +kernel
theorem d_St_append_60 : decode m_St_append.2.1 60 = .ok (.aaload, 1) := by decide +kernel
theorem d_St_append_61 : decode m_St_append.2.1 61 = .ok (.aastore, 1) := by decide +kernel
theorem d_St_append_62 : decode m_St_append.2.1 62 = .ok (.iinc 2 1, 3) := by decide +kernel
theorem d_St_append_65 : decode m_St_append.2.1 65 = .ok (.goto (-25), 3) := by decide +kernel
theorem d_St_append_68 : decode m_St_append.2.1 68 = .ok (.aload_n 0, 1) := by decide +kernel
theorem d_St_append_69 : decode m_St_append.2.1 69 = .ok (.getfield 11, 3) := by decide +kernel
theorem d_St_append_72 : decode m_St_append.2.1 72 = .ok (.bipush 23, 2) := by decide +kernel
theorem d_St_append_74 : decode m_St_append.2.1 74 = .ok (.aload_n 1, 1) := by decide +kernel
theorem d_St_append_75 : decode m_St_append.2.1 75 = .ok (.aastore, 1) := by decide +kernel
theorem d_St_append_76 : decode m_St_append.2.1 76 = .ok (.aload_n 1, 1) := by decide +kernel
theorem d_St_append_77 : decode m_St_append.2.1 77 = .ok (.areturn, 1) := by decide +kernel
theorem d_St_at_0 : decode m_St_at.2.1 0 = .ok (.aload_n 0, 1) := by decide +kernel
theorem d_St_at_1 : decode m_St_at.2.1 1 = .ok (.getfield 11, 3) := by decide +kernel
theorem d_St_at_4 : decode m_St_at.2.1 4 = .ok (.iload_n 1, 1) := by decide +kernel
theorem d_St_at_5 : decode m_St_at.2.1 5 = .ok (.aaload, 1) := by decide +kernel
theorem d_St_at_6 : decode m_St_at.2.1 6 = .ok (.areturn, 1) := by decide +kernel
theorem d_Tx_init_0 : decode m_Tx_init.2.1 0 = .ok (.aload_n 0, 1) := by decide +kernel
theorem d_Tx_init_1 : decode m_Tx_init.2.1 1 = .ok (.invokespecial 3, 3) := by decide +kernel
theorem d_Tx_init_4 : decode m_Tx_init.2.1 4 = .ok (.aload_n 0, 1) := by decide +kernel
theorem d_Tx_init_5 : decode m_Tx_init.2.1 5 = .ok (.bipush 12, 2) := by decide +kernel
theorem d_Tx_init_7 : decode m_Tx_init.2.1 7 = .ok (.newarray .char, 2) := by decide +kernel
theorem d_Tx_init_9 : decode m_Tx_init.2.1 9 = .ok (.putfield 9, 3) := by decide +kernel
theorem d_Tx_init_12 : decode m_Tx_init.2.1 12 = .ok (.aload_n 0, 1) := by decide +kernel
theorem d_Tx_init_13 : decode m_Tx_init.2.1 13 = .ok (.iconst 0, 1) := by decide +kernel
theorem d_Tx_init_14 : decode m_Tx_init.2.1 14 = .ok (.putfield 15, 3) := by decide +kernel
theorem d_Tx_init_17 : decode m_Tx_init.2.1 17 = .ok (.return_, 1) := by decide +kernel
theorem d_Tx_append_0 : decode m_Tx_append.2.1 0 = .ok (.aload_n 0, 1) := by decide +kernel
theorem d_Tx_append_1 : decode m_Tx_append.2.1 1 = .ok (.getfield 15, 3) := by decide +kernel
theorem d_Tx_append_4 : decode m_Tx_append.2.1 4 = .ok (.bipush 12, 2) := by decide +kernel
theorem d_Tx_append_6 : decode m_Tx_append.2.1 6 = .ok (.if_icmp .lt 5, 3) := by decide +kernel
theorem d_Tx_append_9 : decode m_Tx_append.2.1 9 = .ok (.iconst 0, 1) := by decide +kernel
theorem d_Tx_append_10 : decode m_Tx_append.2.1 10 = .ok (.ireturn, 1) := by decide +kernel
theorem d_Tx_append_11 : decode m_Tx_append.2.1 11 = .ok (.aload_n 0, 1) := by decide +kernel
theorem d_Tx_append_12 : decode m_Tx_append.2.1 12 = .ok (.getfield 9, 3) := by decide +kernel
theorem d_Tx_append_15 : decode m_Tx_append.2.1 15 = .ok (.aload_n 0, 1) := by decide +kernel
theorem d_Tx_append_16 : decode m_Tx_append.2.1 16 = .ok (.getfield 15, 3) := by decide +kernel
theorem d_Tx_append_19 : decode m_Tx_append.2.1 19 = .ok (.iload_n 1, 1) := by decide +kernel
theorem d_Tx_append_20 : decode m_Tx_append.2.1 20 = .ok (.castore, 1) := by decide +kernel
theorem d_Tx_append_21 : decode m_Tx_append.2.1 21 = .ok (.aload_n 0, 1) := by decide +kernel
theorem d_Tx_append_22 : decode m_Tx_append.2.1 22 = .ok (.dup, 1) := by decide +kernel
theorem d_Tx_append_23 : decode m_Tx_append.2.1 23 = .ok (.getfield 15, 3) := by decide +kernel
theorem d_Tx_append_26 : decode m_Tx_append.2.1 26 = .ok (.iconst 1, 1) := by decide +kernel
theorem d_Tx_append_27 : decode m_Tx_append.2.1 27 = .ok (.iadd, 1) := by decide +kernel
theorem d_Tx_append_28 : decode m_Tx_append.2.1 28 = .ok (.putfield 15, 3) := by decide +kernel
theorem d_Tx_append_31 : decode m_Tx_append.2.1 31 = .ok (.iconst 1, 1) := by decide +kernel
theorem d_Tx_append_32 : decode m_Tx_append.2.1 32 = .ok (.ireturn, 1) := by decide +kernel
theorem d_Tx_isSame_0 : decode m_Tx_isSame.2.1 0 = .ok (.aload_n 0, 1) := by decide +kernel
theorem d_Tx_isSame_1 : decode m_Tx_isSame.2.1 1 = .ok (.getfield 15, 3) := by decide +kernel
theorem d_Tx_isSame_4 : decode m_Tx_isSame.2.1 4 = .ok (.aload_n 1, 1) := by decide +kernel
theorem d_Tx_isSame_5 : decode m_Tx_isSame.2.1 5 = .ok (.getfield 15, 3) := by decide +kernel
theorem d_Tx_isSame_8 : decode m_Tx_isSame.2.1 8 = .ok (.if_icmp .eq 5, 3) := by decide +kernel
theorem d_Tx_isSame_11 : decode m_Tx_isSame.2.1 11 = .ok (.iconst 0, 1) := by decide +kernel
theorem d_Tx_isSame_12 : decode m_Tx_isSame.2.1 12 = .ok (.ireturn, 1) := by decide +kernel
theorem d_Tx_isSame_13 : decode m_Tx_isSame.2.1 13 = .ok (.iconst 0, 1) := by decide +kernel
theorem d_Tx_isSame_14 : decode m_Tx_isSame.2.1 14 = .ok (.istore_n 2, 1) := by decide +kernel
theorem d_Tx_isSame_15 : decode m_Tx_isSame.2.1 15 = .ok (.iload_n 2, 1) := by decide +kernel
theorem d_Tx_isSame_16 : decode m_Tx_isSame.2.1 16 = .ok (.aload_n 0, 1) := by decide +kernel
theorem d_Tx_isSame_17 : decode m_Tx_isSame.2.1 17 = .ok (.getfield 15, 3) := by decide +kernel
theorem d_Tx_isSame_20 : decode m_Tx_isSame.2.1 20 = .ok (.if_icmp .ge 26, 3) := by decide +kernel
theorem d_Tx_isSame_23 : decode m_Tx_isSame.2.1 23 = .ok (.aload_n 0, 1) := by decide +kernel
theorem d_Tx_isSame_24 : decode m_Tx_isSame.2.1 24 = .ok (.getfield 9, 3) := by decide +kernel
theorem d_Tx_isSame_27 : decode m_Tx_isSame.2.1 27 = .ok (.iload_n 2, 1) := by decide +kernel
theorem d_Tx_isSame_28 : decode m_Tx_isSame.2.1 28 = .ok (.caload, 1) := by decide +kernel
theorem d_Tx_isSame_29 : decode m_Tx_isSame.2.1 29 = .ok (.aload_n 1, 1) := by decide +kernel
theorem d_Tx_isSame_30 : decode m_Tx_isSame.2.1 30 = .ok (.getfield 9, 3) := by decide +kernel
theorem d_Tx_isSame_33 : decode m_Tx_isSame.2.1 33 = .ok (.iload_n 2, 1) := by decide +kernel
theorem d_Tx_isSame_34 : decode m_Tx_isSame.2.1 34 = .ok (.caload, 1) := by decide +kernel
theorem d_Tx_isSame_35 : decode m_Tx_isSame.2.1 35 = .ok (.if_icmp .eq 5, 3) := by decide +kernel
theorem d_Tx_isSame_38 : decode m_Tx_isSame.2.1 38 = .ok (.iconst 0, 1) := by decide +kernel
theorem d_Tx_isSame_39 : decode m_Tx_isSame.2.1 39 = .ok (.ireturn, 1) := by decide +kernel
theorem d_Tx_isSame_40 : decode m_Tx_isSame.2.1 40 = .ok (.iinc 2 1, 3) := by decide +kernel
theorem d_Tx_isSame_43 : decode m_Tx_isSame.2.1 43 = .ok (.goto (-28), 3) := by decide +kernel
theorem d_Tx_isSame_46 : decode m_Tx_isSame.2.1 46 = .ok (.iconst 1, 1) := by decide +kernel
theorem d_Tx_isSame_47 : decode m_Tx_isSame.2.1 47 = .ok (.ireturn, 1) := by decide +kernel
theorem d_Tx_isCommand_0 : decode m_Tx_isCommand.2.1 0 = .ok (.iconst 0, 1) := by decide +kernel
theorem d_Tx_isCommand_1 : decode m_Tx_isCommand.2.1 1 = .ok (.istore_n 1, 1) := by decide +kernel
theorem d_Tx_isCommand_2 : decode m_Tx_isCommand.2.1 2 = .ok (.iload_n 1, 1) := by decide +kernel
theorem d_Tx_isCommand_3 : decode m_Tx_isCommand.2.1 3 = .ok (.aload_n 0, 1) := by decide +kernel
theorem d_Tx_isCommand_4 : decode m_Tx_isCommand.2.1 4 = .ok (.getfield 15, 3) := by decide +kernel
theorem d_Tx_isCommand_7 : decode m_Tx_isCommand.2.1 7 = .ok (.if_icmp .ge 30, 3) := by decide +kernel
theorem d_Tx_isCommand_10 : decode m_Tx_isCommand.2.1 10 = .ok (.aload_n 0, 1) := by decide +kernel
theorem d_Tx_isCommand_11 : decode m_Tx_isCommand.2.1 11 = .ok (.iload_n 1, 1) := by decide +kernel
theorem d_Tx_isCommand_12 : decode m_Tx_isCommand.2.1 12 = .ok (.invokevirtual 19, 3) := by decide +kernel
theorem d_Tx_isCommand_15 : decode m_Tx_isCommand.2.1 15 = .ok (.bipush 63, 2) := by decide +kernel
theorem d_Tx_isCommand_17 : decode m_Tx_isCommand.2.1 17 = .ok (.if_icmp .ne 20, 3) := by decide +kernel
theorem d_Tx_isCommand_20 : decode m_Tx_isCommand.2.1 20 = .ok (.aload_n 0, 1) := by decide +kernel
theorem d_Tx_isCommand_21 : decode m_Tx_isCommand.2.1 21 = .ok (.iload_n 1, 1) := by decide +kernel
theorem d_Tx_isCommand_22 : decode m_Tx_isCommand.2.1 22 = .ok (.iconst 1, 1) := by decide +kernel
theorem d_Tx_isCommand_23 : decode m_Tx_isCommand.2.1 23 = .ok (.iadd, 1) := by decide +kernel
theorem d_Tx_isCommand_24 : decode m_Tx_isCommand.2.1 24 = .ok (.invokevirtual 23, 3) := by decide +kernel
theorem d_Tx_isCommand_27 : decode m_Tx_isCommand.2.1 27 = .ok (.iconst (-1), 1) := by decide +kernel
theorem d_Tx_isCommand_28 : decode m_Tx_isCommand.2.1 28 = .ok (.if_icmp .eq 9, 3) := by decide +kernel
theorem d_Tx_isCommand_31 : decode m_Tx_isCommand.2.1 31 = .ok (.iinc 1 2, 3) := by decide +kernel
theorem d_Tx_isCommand_34 : decode m_Tx_isCommand.2.1 34 = .ok (.goto (-32), 3) := by decide +kernel
theorem d_Tx_isCommand_37 : decode m_Tx_isCommand.2.1 37 = .ok (.aload_n 0, 1) := by decide +kernel
theorem d_Tx_isCommand_38 : decode m_Tx_isCommand.2.1 38 = .ok (.iload_n 1, 1) := by decide +kernel
theorem d_Tx_isCommand_39 : decode m_Tx_isCommand.2.1 39 = .ok (.invokevirtual 27, 3) := by decide +kernel
theorem d_Tx_isCommand_42 : decode m_Tx_isCommand.2.1 42 = .ok (.ireturn, 1) := by decide +kernel
theorem d_Tx_at_0 : decode m_Tx_at.2.1 0 = .ok (.iload_n 1, 1) := by decide +kernel
theorem d_Tx_at_1 : decode m_Tx_at.2.1 1 = .ok (.ifCond .lt 20, 3) := by decide +kernel
theorem d_Tx_at_4 : decode m_Tx_at.2.1 4 = .ok (.iload_n 1, 1) := by decide +kernel
theorem d_Tx_at_5 : decode m_Tx_at.2.1 5 = .ok (.aload_n 0, 1) := by decide +kernel
theorem d_Tx_at_6 : decode m_Tx_at.2.1 6 = .ok (.getfield 15, 3) := by decide +kernel
theorem d_Tx_at_9 : decode m_Tx_at.2.1 9 = .ok (.if_icmp .ge 12, 3) := by decide +kernel
theorem d_Tx_at_12 : decode m_Tx_at.2.1 12 = .ok (.aload_n 0, 1) := by decide +kernel
theorem d_Tx_at_13 : decode m_Tx_at.2.1 13 = .ok (.getfield 9, 3) := by decide +kernel
theorem d_Tx_at_16 : decode m_Tx_at.2.1 16 = .ok (.iload_n 1, 1) := by decide +kernel
theorem d_Tx_at_17 : decode m_Tx_at.2.1 17 = .ok (.caload, 1) := by decide +kernel
theorem d_Tx_at_18 : decode m_Tx_at.2.1 18 = .ok (.goto 4, 3) := by decide +kernel
theorem d_Tx_at_21 : decode m_Tx_at.2.1 21 = .ok (.iconst 0, 1) := by decide +kernel
theorem d_Tx_at_22 : decode m_Tx_at.2.1 22 = .ok (.ireturn, 1) := by decide +kernel
theorem d_Tx_fileAt_0 : decode m_Tx_fileAt.2.1 0 = .ok (.aload_n 0, 1) := by decide +kernel
theorem d_Tx_fileAt_1 : decode m_Tx_fileAt.2.1 1 = .ok (.iload_n 1, 1) := by decide +kernel
theorem d_Tx_fileAt_2 : decode m_Tx_fileAt.2.1 2 = .ok (.invokevirtual 19, 3) := by decide +kernel
theorem d_Tx_fileAt_5 : decode m_Tx_fileAt.2.1 5 = .ok (.istore_n 2, 1) := by decide +kernel
theorem d_Tx_fileAt_6 : decode m_Tx_fileAt.2.1 6 = .ok (.iload_n 2, 1) := by decide +kernel
theorem d_Tx_fileAt_7 : decode m_Tx_fileAt.2.1 7 = .ok (.bipush 97, 2) := by decide +kernel
theorem d_Tx_fileAt_9 : decode m_Tx_fileAt.2.1 9 = .ok (.if_icmp .lt 16, 3) := by decide +kernel
theorem d_Tx_fileAt_12 : decode m_Tx_fileAt.2.1 12 = .ok (.iload_n 2, 1) := by decide +kernel
theorem d_Tx_fileAt_13 : decode m_Tx_fileAt.2.1 13 = .ok (.bipush 108, 2) := by decide +kernel
theorem d_Tx_fileAt_15 : decode m_Tx_fileAt.2.1 15 = .ok (.if_icmp .gt 10, 3) := by decide +kernel
theorem d_Tx_fileAt_18 : decode m_Tx_fileAt.2.1 18 = .ok (.iload_n 2, 1) := by decide +kernel
theorem d_Tx_fileAt_19 : decode m_Tx_fileAt.2.1 19 = .ok (.bipush 97, 2) := by decide +kernel
theorem d_Tx_fileAt_21 : decode m_Tx_fileAt.2.1 21 = .ok (.isub, 1) := by decide +kernel
theorem d_Tx_fileAt_22 : decode m_Tx_fileAt.2.1 22 = .ok (.goto 4, 3) := by decide +kernel
theorem d_Tx_fileAt_25 : decode m_Tx_fileAt.2.1 25 = .ok (.iconst (-1), 1) := by decide +kernel
theorem d_Tx_fileAt_26 : decode m_Tx_fileAt.2.1 26 = .ok (.ireturn, 1) := by decide +kernel
theorem d_Tx_isPlainCommand_0 : decode m_Tx_isPlainCommand.2.1 0 = .ok (.aload_n 0, 1) := by decide +kernel
theorem d_Tx_isPlainCommand_1 : decode m_Tx_isPlainCommand.2.1 1 = .ok (.iload_n 1, 1) := by decide +kernel
theorem d_Tx_isPlainCommand_2 : decode m_Tx_isPlainCommand.2.1 2 = .ok (.invokevirtual 19, 3) := by decide +kernel
theorem d_Tx_isPlainCommand_5 : decode m_Tx_isPlainCommand.2.1 5 = .ok (.istore_n 2, 1) := by decide +kernel
theorem d_Tx_isPlainCommand_6 : decode m_Tx_isPlainCommand.2.1 6 = .ok (.iload_n 2, 1) := by decide +kernel
theorem d_Tx_isPlainCommand_7 : decode m_Tx_isPlainCommand.2.1 7 = .ok (.lookupswitch 144 #[(43, 99), (99, 90), (102, 108), (106, 99), (108, 81), (110, 136), (112, 90), (115, 90), (120, 81)], 81) := by decide +kernel
theorem d_Tx_isPlainCommand_88 : decode m_Tx_isPlainCommand.2.1 88 = .ok (.aload_n 0, 1) := by decide +kernel
theorem d_Tx_isPlainCommand_89 : decode m_Tx_isPlainCommand.2.1 89 = .ok (.iload_n 1, 1) := by decide +kernel
theorem d_Tx_isPlainCommand_90 : decode m_Tx_isPlainCommand.2.1 90 = .ok (.iconst 1, 1) := by decide +kernel
theorem d_Tx_isPlainCommand_91 : decode m_Tx_isPlainCommand.2.1 91 = .ok (.iadd, 1) := by decide +kernel
theorem d_Tx_isPlainCommand_92 : decode m_Tx_isPlainCommand.2.1 92 = .ok (.iconst 1, 1) := by decide +kernel
theorem d_Tx_isPlainCommand_93 : decode m_Tx_isPlainCommand.2.1 93 = .ok (.invokevirtual 31, 3) := by decide +kernel
theorem d_Tx_isPlainCommand_96 : decode m_Tx_isPlainCommand.2.1 96 = .ok (.ireturn, 1) := by decide +kernel
theorem d_Tx_isPlainCommand_97 : decode m_Tx_isPlainCommand.2.1 97 = .ok (.aload_n 0, 1) := by decide +kernel
theorem d_Tx_isPlainCommand_98 : decode m_Tx_isPlainCommand.2.1 98 = .ok (.iload_n 1, 1) := by decide +kernel
theorem d_Tx_isPlainCommand_99 : decode m_Tx_isPlainCommand.2.1 99 = .ok (.iconst 1, 1) := by decide +kernel
theorem d_Tx_isPlainCommand_100 : decode m_Tx_isPlainCommand.2.1 100 = .ok (.iadd, 1) := by decide +kernel
theorem d_Tx_isPlainCommand_101 : decode m_Tx_isPlainCommand.2.1 101 = .ok (.iconst 2, 1) := by decide +kernel
theorem d_Tx_isPlainCommand_102 : decode m_Tx_isPlainCommand.2.1 102 = .ok (.invokevirtual 31, 3) := by decide +kernel
theorem d_Tx_isPlainCommand_105 : decode m_Tx_isPlainCommand.2.1 105 = .ok (.ireturn, 1) := by decide +kernel
theorem d_Tx_isPlainCommand_106 : decode m_Tx_isPlainCommand.2.1 106 = .ok (.aload_n 0, 1) := by decide +kernel
theorem d_Tx_isPlainCommand_107 : decode m_Tx_isPlainCommand.2.1 107 = .ok (.iload_n 1, 1) := by decide +kernel
theorem d_Tx_isPlainCommand_108 : decode m_Tx_isPlainCommand.2.1 108 = .ok (.iconst 1, 1) := by decide +kernel
theorem d_Tx_isPlainCommand_109 : decode m_Tx_isPlainCommand.2.1 109 = .ok (.iadd, 1) := by decide +kernel
theorem d_Tx_isPlainCommand_110 : decode m_Tx_isPlainCommand.2.1 110 = .ok (.iconst 3, 1) := by decide +kernel
theorem d_Tx_isPlainCommand_111 : decode m_Tx_isPlainCommand.2.1 111 = .ok (.invokevirtual 31, 3) := by decide +kernel
theorem d_Tx_isPlainCommand_114 : decode m_Tx_isPlainCommand.2.1 114 = .ok (.ireturn, 1) := by decide +kernel
theorem d_Tx_isPlainCommand_115 : decode m_Tx_isPlainCommand.2.1 115 = .ok (.aload_n 0, 1) := by decide +kernel
theorem d_Tx_isPlainCommand_116 : decode m_Tx_isPlainCommand.2.1 116 = .ok (.iload_n 1, 1) := by decide +kernel
theorem d_Tx_isPlainCommand_117 : decode m_Tx_isPlainCommand.2.1 117 = .ok (.iconst 1, 1) := by decide +kernel
theorem d_Tx_isPlainCommand_118 : decode m_Tx_isPlainCommand.2.1 118 = .ok (.iadd, 1) := by decide +kernel
theorem d_Tx_isPlainCommand_119 : decode m_Tx_isPlainCommand.2.1 119 = .ok (.invokevirtual 35, 3) := by decide +kernel
theorem d_Tx_isPlainCommand_122 : decode m_Tx_isPlainCommand.2.1 122 = .ok (.iconst (-1), 1) := by decide +kernel
theorem d_Tx_isPlainCommand_123 : decode m_Tx_isPlainCommand.2.1 123 = .ok (.if_icmp .eq 18, 3) := by decide +kernel
theorem d_Tx_isPlainCommand_126 : decode m_Tx_isPlainCommand.2.1 126 = .ok (.aload_n 0, 1) := by decide +kernel
theorem d_Tx_isPlainCommand_127 : decode m_Tx_isPlainCommand.2.1 127 = .ok (.iload_n 1, 1) := by decide +kernel
theorem d_Tx_isPlainCommand_128 : decode m_Tx_isPlainCommand.2.1 128 = .ok (.iconst 2, 1) := by decide +kernel
theorem d_Tx_isPlainCommand_129 : decode m_Tx_isPlainCommand.2.1 129 = .ok (.iadd, 1) := by decide +kernel
theorem d_Tx_isPlainCommand_130 : decode m_Tx_isPlainCommand.2.1 130 = .ok (.iconst 2, 1) := by decide +kernel
theorem d_Tx_isPlainCommand_131 : decode m_Tx_isPlainCommand.2.1 131 = .ok (.invokevirtual 31, 3) := by decide +kernel
theorem d_Tx_isPlainCommand_134 : decode m_Tx_isPlainCommand.2.1 134 = .ok (.ifCond .eq 7, 3) := by decide +kernel
theorem d_Tx_isPlainCommand_137 : decode m_Tx_isPlainCommand.2.1 137 = .ok (.iconst 1, 1) := by decide +kernel
theorem d_Tx_isPlainCommand_138 : decode m_Tx_isPlainCommand.2.1 138 = .ok (.goto 4, 3) := by decide +kernel
theorem d_Tx_isPlainCommand_141 : decode m_Tx_isPlainCommand.2.1 141 = .ok (.iconst 0, 1) := by decide +kernel
theorem d_Tx_isPlainCommand_142 : decode m_Tx_isPlainCommand.2.1 142 = .ok (.ireturn, 1) := by decide +kernel
theorem d_Tx_isPlainCommand_143 : decode m_Tx_isPlainCommand.2.1 143 = .ok (.aload_n 0, 1) := by decide +kernel
theorem d_Tx_isPlainCommand_144 : decode m_Tx_isPlainCommand.2.1 144 = .ok (.iload_n 1, 1) := by decide +kernel
theorem d_Tx_isPlainCommand_145 : decode m_Tx_isPlainCommand.2.1 145 = .ok (.iconst 1, 1) := by decide +kernel
theorem d_Tx_isPlainCommand_146 : decode m_Tx_isPlainCommand.2.1 146 = .ok (.iadd, 1) := by decide +kernel
theorem d_Tx_isPlainCommand_147 : decode m_Tx_isPlainCommand.2.1 147 = .ok (.invokevirtual 38, 3) := by decide +kernel
theorem d_Tx_isPlainCommand_150 : decode m_Tx_isPlainCommand.2.1 150 = .ok (.ireturn, 1) := by decide +kernel
theorem d_Tx_isPlainCommand_151 : decode m_Tx_isPlainCommand.2.1 151 = .ok (.iconst 0, 1) := by decide +kernel
theorem d_Tx_isPlainCommand_152 : decode m_Tx_isPlainCommand.2.1 152 = .ok (.ireturn, 1) := by decide +kernel
theorem d_Tx_isFilesToEnd_0 : decode m_Tx_isFilesToEnd.2.1 0 = .ok (.aload_n 0, 1) := by decide +kernel
theorem d_Tx_isFilesToEnd_1 : decode m_Tx_isFilesToEnd.2.1 1 = .ok (.getfield 15, 3) := by decide +kernel
theorem d_Tx_isFilesToEnd_4 : decode m_Tx_isFilesToEnd.2.1 4 = .ok (.iload_n 1, 1) := by decide +kernel
theorem d_Tx_isFilesToEnd_5 : decode m_Tx_isFilesToEnd.2.1 5 = .ok (.iload_n 2, 1) := by decide +kernel
theorem d_Tx_isFilesToEnd_6 : decode m_Tx_isFilesToEnd.2.1 6 = .ok (.iadd, 1) := by decide +kernel
theorem d_Tx_isFilesToEnd_7 : decode m_Tx_isFilesToEnd.2.1 7 = .ok (.if_icmp .eq 5, 3) := by decide +kernel
theorem d_Tx_isFilesToEnd_10 : decode m_Tx_isFilesToEnd.2.1 10 = .ok (.iconst 0, 1) := by decide +kernel
theorem d_Tx_isFilesToEnd_11 : decode m_Tx_isFilesToEnd.2.1 11 = .ok (.ireturn, 1) := by decide +kernel
theorem d_Tx_isFilesToEnd_12 : decode m_Tx_isFilesToEnd.2.1 12 = .ok (.iload_n 1, 1) := by decide +kernel
theorem d_Tx_isFilesToEnd_13 : decode m_Tx_isFilesToEnd.2.1 13 = .ok (.istore_n 3, 1) := by decide +kernel
theorem d_Tx_isFilesToEnd_14 : decode m_Tx_isFilesToEnd.2.1 14 = .ok (.iload_n 3, 1) := by decide +kernel
theorem d_Tx_isFilesToEnd_15 : decode m_Tx_isFilesToEnd.2.1 15 = .ok (.aload_n 0, 1) := by decide +kernel
theorem d_Tx_isFilesToEnd_16 : decode m_Tx_isFilesToEnd.2.1 16 = .ok (.getfield 15, 3) := by decide +kernel
theorem d_Tx_isFilesToEnd_19 : decode m_Tx_isFilesToEnd.2.1 19 = .ok (.if_icmp .ge 20, 3) := by decide +kernel
theorem d_Tx_isFilesToEnd_22 : decode m_Tx_isFilesToEnd.2.1 22 = .ok (.aload_n 0, 1) := by decide +kernel
theorem d_Tx_isFilesToEnd_23 : decode m_Tx_isFilesToEnd.2.1 23 = .ok (.iload_n 3, 1) := by decide +kernel
theorem d_Tx_isFilesToEnd_24 : decode m_Tx_isFilesToEnd.2.1 24 = .ok (.invokevirtual 23, 3) := by decide +kernel
theorem d_Tx_isFilesToEnd_27 : decode m_Tx_isFilesToEnd.2.1 27 = .ok (.iconst (-1), 1) := by decide +kernel
theorem d_Tx_isFilesToEnd_28 : decode m_Tx_isFilesToEnd.2.1 28 = .ok (.if_icmp .ne 5, 3) := by decide +kernel
theorem d_Tx_isFilesToEnd_31 : decode m_Tx_isFilesToEnd.2.1 31 = .ok (.iconst 0, 1) := by decide +kernel
theorem d_Tx_isFilesToEnd_32 : decode m_Tx_isFilesToEnd.2.1 32 = .ok (.ireturn, 1) := by decide +kernel
theorem d_Tx_isFilesToEnd_33 : decode m_Tx_isFilesToEnd.2.1 33 = .ok (.iinc 3 1, 3) := by decide +kernel
theorem d_Tx_isFilesToEnd_36 : decode m_Tx_isFilesToEnd.2.1 36 = .ok (.goto (-22), 3) := by decide +kernel
theorem d_Tx_isFilesToEnd_39 : decode m_Tx_isFilesToEnd.2.1 39 = .ok (.iconst 1, 1) := by decide +kernel
theorem d_Tx_isFilesToEnd_40 : decode m_Tx_isFilesToEnd.2.1 40 = .ok (.ireturn, 1) := by decide +kernel
theorem d_Tx_digitAt_0 : decode m_Tx_digitAt.2.1 0 = .ok (.aload_n 0, 1) := by decide +kernel
theorem d_Tx_digitAt_1 : decode m_Tx_digitAt.2.1 1 = .ok (.iload_n 1, 1) := by decide +kernel
theorem d_Tx_digitAt_2 : decode m_Tx_digitAt.2.1 2 = .ok (.invokevirtual 19, 3) := by decide +kernel
theorem d_Tx_digitAt_5 : decode m_Tx_digitAt.2.1 5 = .ok (.istore_n 2, 1) := by decide +kernel
theorem d_Tx_digitAt_6 : decode m_Tx_digitAt.2.1 6 = .ok (.iload_n 2, 1) := by decide +kernel
theorem d_Tx_digitAt_7 : decode m_Tx_digitAt.2.1 7 = .ok (.bipush 49, 2) := by decide +kernel
theorem d_Tx_digitAt_9 : decode m_Tx_digitAt.2.1 9 = .ok (.if_icmp .lt 16, 3) := by decide +kernel
theorem d_Tx_digitAt_12 : decode m_Tx_digitAt.2.1 12 = .ok (.iload_n 2, 1) := by decide +kernel
theorem d_Tx_digitAt_13 : decode m_Tx_digitAt.2.1 13 = .ok (.bipush 57, 2) := by decide +kernel
theorem d_Tx_digitAt_15 : decode m_Tx_digitAt.2.1 15 = .ok (.if_icmp .gt 10, 3) := by decide +kernel
theorem d_Tx_digitAt_18 : decode m_Tx_digitAt.2.1 18 = .ok (.iload_n 2, 1) := by decide +kernel
theorem d_Tx_digitAt_19 : decode m_Tx_digitAt.2.1 19 = .ok (.bipush 48, 2) := by decide +kernel
theorem d_Tx_digitAt_21 : decode m_Tx_digitAt.2.1 21 = .ok (.isub, 1) := by decide +kernel
theorem d_Tx_digitAt_22 : decode m_Tx_digitAt.2.1 22 = .ok (.goto 4, 3) := by decide +kernel
theorem d_Tx_digitAt_25 : decode m_Tx_digitAt.2.1 25 = .ok (.iconst (-1), 1) := by decide +kernel
theorem d_Tx_digitAt_26 : decode m_Tx_digitAt.2.1 26 = .ok (.ireturn, 1) := by decide +kernel
theorem d_Tx_isDigitsAndFile_0 : decode m_Tx_isDigitsAndFile.2.1 0 = .ok (.aload_n 0, 1) := by decide +kernel
theorem d_Tx_isDigitsAndFile_1 : decode m_Tx_isDigitsAndFile.2.1 1 = .ok (.getfield 15, 3) := by decide +kernel
theorem d_Tx_isDigitsAndFile_4 : decode m_Tx_isDigitsAndFile.2.1 4 = .ok (.iconst 1, 1) := by decide +kernel
theorem d_Tx_isDigitsAndFile_5 : decode m_Tx_isDigitsAndFile.2.1 5 = .ok (.isub, 1) := by decide +kernel
theorem d_Tx_isDigitsAndFile_6 : decode m_Tx_isDigitsAndFile.2.1 6 = .ok (.istore_n 2, 1) := by decide +kernel
theorem d_Tx_isDigitsAndFile_7 : decode m_Tx_isDigitsAndFile.2.1 7 = .ok (.iload_n 2, 1) := by decide +kernel
theorem d_Tx_isDigitsAndFile_8 : decode m_Tx_isDigitsAndFile.2.1 8 = .ok (.iload_n 1, 1) := by decide +kernel
theorem d_Tx_isDigitsAndFile_9 : decode m_Tx_isDigitsAndFile.2.1 9 = .ok (.iconst 1, 1) := by decide +kernel
theorem d_Tx_isDigitsAndFile_10 : decode m_Tx_isDigitsAndFile.2.1 10 = .ok (.iadd, 1) := by decide +kernel
theorem d_Tx_isDigitsAndFile_11 : decode m_Tx_isDigitsAndFile.2.1 11 = .ok (.if_icmp .lt 10, 3) := by decide +kernel
theorem d_Tx_isDigitsAndFile_14 : decode m_Tx_isDigitsAndFile.2.1 14 = .ok (.iload_n 2, 1) := by decide +kernel
theorem d_Tx_isDigitsAndFile_15 : decode m_Tx_isDigitsAndFile.2.1 15 = .ok (.iload_n 1, 1) := by decide +kernel
theorem d_Tx_isDigitsAndFile_16 : decode m_Tx_isDigitsAndFile.2.1 16 = .ok (.iconst 4, 1) := by decide +kernel
theorem d_Tx_isDigitsAndFile_17 : decode m_Tx_isDigitsAndFile.2.1 17 = .ok (.iadd, 1) := by decide +kernel
theorem d_Tx_isDigitsAndFile_18 : decode m_Tx_isDigitsAndFile.2.1 18 = .ok (.if_icmp .le 5, 3) := by decide +kernel
theorem d_Tx_isDigitsAndFile_21 : decode m_Tx_isDigitsAndFile.2.1 21 = .ok (.iconst 0, 1) := by decide +kernel
theorem d_Tx_isDigitsAndFile_22 : decode m_Tx_isDigitsAndFile.2.1 22 = .ok (.ireturn, 1) := by decide +kernel
theorem d_Tx_isDigitsAndFile_23 : decode m_Tx_isDigitsAndFile.2.1 23 = .ok (.iload_n 1, 1) := by decide +kernel
theorem d_Tx_isDigitsAndFile_24 : decode m_Tx_isDigitsAndFile.2.1 24 = .ok (.istore_n 3, 1) := by decide +kernel
theorem d_Tx_isDigitsAndFile_25 : decode m_Tx_isDigitsAndFile.2.1 25 = .ok (.iload_n 3, 1) := by decide +kernel
theorem d_Tx_isDigitsAndFile_26 : decode m_Tx_isDigitsAndFile.2.1 26 = .ok (.iload_n 2, 1) := by decide +kernel
theorem d_Tx_isDigitsAndFile_27 : decode m_Tx_isDigitsAndFile.2.1 27 = .ok (.if_icmp .ge 20, 3) := by decide +kernel
theorem d_Tx_isDigitsAndFile_30 : decode m_Tx_isDigitsAndFile.2.1 30 = .ok (.aload_n 0, 1) := by decide +kernel
theorem d_Tx_isDigitsAndFile_31 : decode m_Tx_isDigitsAndFile.2.1 31 = .ok (.iload_n 3, 1) := by decide +kernel
theorem d_Tx_isDigitsAndFile_32 : decode m_Tx_isDigitsAndFile.2.1 32 = .ok (.invokevirtual 35, 3) := by decide +kernel
theorem d_Tx_isDigitsAndFile_35 : decode m_Tx_isDigitsAndFile.2.1 35 = .ok (.iconst (-1), 1) := by decide +kernel
theorem d_Tx_isDigitsAndFile_36 : decode m_Tx_isDigitsAndFile.2.1 36 = .ok (.if_icmp .ne 5, 3) := by decide +kernel
theorem d_Tx_isDigitsAndFile_39 : decode m_Tx_isDigitsAndFile.2.1 39 = .ok (.iconst 0, 1) := by decide +kernel
theorem d_Tx_isDigitsAndFile_40 : decode m_Tx_isDigitsAndFile.2.1 40 = .ok (.ireturn, 1) := by decide +kernel
theorem d_Tx_isDigitsAndFile_41 : decode m_Tx_isDigitsAndFile.2.1 41 = .ok (.iinc 3 1, 3) := by decide +kernel
theorem d_Tx_isDigitsAndFile_44 : decode m_Tx_isDigitsAndFile.2.1 44 = .ok (.goto (-19), 3) := by decide +kernel
theorem d_Tx_isDigitsAndFile_47 : decode m_Tx_isDigitsAndFile.2.1 47 = .ok (.aload_n 0, 1) := by decide +kernel
theorem d_Tx_isDigitsAndFile_48 : decode m_Tx_isDigitsAndFile.2.1 48 = .ok (.iload_n 2, 1) := by decide +kernel
theorem d_Tx_isDigitsAndFile_49 : decode m_Tx_isDigitsAndFile.2.1 49 = .ok (.invokevirtual 23, 3) := by decide +kernel
theorem d_Tx_isDigitsAndFile_52 : decode m_Tx_isDigitsAndFile.2.1 52 = .ok (.iconst (-1), 1) := by decide +kernel
theorem d_Tx_isDigitsAndFile_53 : decode m_Tx_isDigitsAndFile.2.1 53 = .ok (.if_icmp .eq 7, 3) := by decide +kernel
theorem d_Tx_isDigitsAndFile_56 : decode m_Tx_isDigitsAndFile.2.1 56 = .ok (.iconst 1, 1) := by decide +kernel
theorem d_Tx_isDigitsAndFile_57 : decode m_Tx_isDigitsAndFile.2.1 57 = .ok (.goto 4, 3) := by decide +kernel
theorem d_Tx_isDigitsAndFile_60 : decode m_Tx_isDigitsAndFile.2.1 60 = .ok (.iconst 0, 1) := by decide +kernel
theorem d_Tx_isDigitsAndFile_61 : decode m_Tx_isDigitsAndFile.2.1 61 = .ok (.ireturn, 1) := by decide +kernel
theorem d_Tx_clear_0 : decode m_Tx_clear.2.1 0 = .ok (.aload_n 0, 1) := by decide +kernel
theorem d_Tx_clear_1 : decode m_Tx_clear.2.1 1 = .ok (.iconst 0, 1) := by decide +kernel
theorem d_Tx_clear_2 : decode m_Tx_clear.2.1 2 = .ok (.putfield 15, 3) := by decide +kernel
theorem d_Tx_clear_5 : decode m_Tx_clear.2.1 5 = .ok (.return_, 1) := by decide +kernel
theorem d_Tx_become_0 : decode m_Tx_become.2.1 0 = .ok (.aload_n 0, 1) := by decide +kernel
theorem d_Tx_become_1 : decode m_Tx_become.2.1 1 = .ok (.aload_n 1, 1) := by decide +kernel
theorem d_Tx_become_2 : decode m_Tx_become.2.1 2 = .ok (.getfield 15, 3) := by decide +kernel
theorem d_Tx_become_5 : decode m_Tx_become.2.1 5 = .ok (.putfield 15, 3) := by decide +kernel
theorem d_Tx_become_8 : decode m_Tx_become.2.1 8 = .ok (.iconst 0, 1) := by decide +kernel
theorem d_Tx_become_9 : decode m_Tx_become.2.1 9 = .ok (.istore_n 2, 1) := by decide +kernel
theorem d_Tx_become_10 : decode m_Tx_become.2.1 10 = .ok (.iload_n 2, 1) := by decide +kernel
theorem d_Tx_become_11 : decode m_Tx_become.2.1 11 = .ok (.aload_n 0, 1) := by decide +kernel
theorem d_Tx_become_12 : decode m_Tx_become.2.1 12 = .ok (.getfield 15, 3) := by decide +kernel
theorem d_Tx_become_15 : decode m_Tx_become.2.1 15 = .ok (.if_icmp .ge 21, 3) := by decide +kernel
theorem d_Tx_become_18 : decode m_Tx_become.2.1 18 = .ok (.aload_n 0, 1) := by decide +kernel
theorem d_Tx_become_19 : decode m_Tx_become.2.1 19 = .ok (.getfield 9, 3) := by decide +kernel
theorem d_Tx_become_22 : decode m_Tx_become.2.1 22 = .ok (.iload_n 2, 1) := by decide +kernel
theorem d_Tx_become_23 : decode m_Tx_become.2.1 23 = .ok (.aload_n 1, 1) := by decide +kernel
theorem d_Tx_become_24 : decode m_Tx_become.2.1 24 = .ok (.getfield 9, 3) := by decide +kernel
theorem d_Tx_become_27 : decode m_Tx_become.2.1 27 = .ok (.iload_n 2, 1) := by decide +kernel
theorem d_Tx_become_28 : decode m_Tx_become.2.1 28 = .ok (.caload, 1) := by decide +kernel
theorem d_Tx_become_29 : decode m_Tx_become.2.1 29 = .ok (.castore, 1) := by decide +kernel
theorem d_Tx_become_30 : decode m_Tx_become.2.1 30 = .ok (.iinc 2 1, 3) := by decide +kernel
theorem d_Tx_become_33 : decode m_Tx_become.2.1 33 = .ok (.goto (-23), 3) := by decide +kernel
theorem d_Tx_become_36 : decode m_Tx_become.2.1 36 = .ok (.return_, 1) := by decide +kernel
theorem d_Tx_length_0 : decode m_Tx_length.2.1 0 = .ok (.aload_n 0, 1) := by decide +kernel
theorem d_Tx_length_1 : decode m_Tx_length.2.1 1 = .ok (.getfield 15, 3) := by decide +kernel
theorem d_Tx_length_4 : decode m_Tx_length.2.1 4 = .ok (.ireturn, 1) := by decide +kernel
theorem d_Tr_init_0 : decode m_Tr_init.2.1 0 = .ok (.aload_n 0, 1) := by decide +kernel
theorem d_Tr_init_1 : decode m_Tr_init.2.1 1 = .ok (.invokespecial 3, 3) := by decide +kernel
theorem d_Tr_init_4 : decode m_Tr_init.2.1 4 = .ok (.aload_n 0, 1) := by decide +kernel
theorem d_Tr_init_5 : decode m_Tr_init.2.1 5 = .ok (.new 9, 3) := by decide +kernel
theorem d_Tr_init_8 : decode m_Tr_init.2.1 8 = .ok (.dup, 1) := by decide +kernel
theorem d_Tr_init_9 : decode m_Tr_init.2.1 9 = .ok (.invokespecial 11, 3) := by decide +kernel
theorem d_Tr_init_12 : decode m_Tr_init.2.1 12 = .ok (.putfield 12, 3) := by decide +kernel
theorem d_Tr_init_15 : decode m_Tr_init.2.1 15 = .ok (.aload_n 0, 1) := by decide +kernel
theorem d_Tr_init_16 : decode m_Tr_init.2.1 16 = .ok (.new 18, 3) := by decide +kernel
theorem d_Tr_init_19 : decode m_Tr_init.2.1 19 = .ok (.dup, 1) := by decide +kernel
theorem d_Tr_init_20 : decode m_Tr_init.2.1 20 = .ok (.bipush 13, 2) := by decide +kernel
theorem d_Tr_init_22 : decode m_Tr_init.2.1 22 = .ok (.invokespecial 20, 3) := by decide +kernel
theorem d_Tr_init_25 : decode m_Tr_init.2.1 25 = .ok (.putfield 23, 3) := by decide +kernel
theorem d_Tr_init_28 : decode m_Tr_init.2.1 28 = .ok (.aload_n 0, 1) := by decide +kernel
theorem d_Tr_init_29 : decode m_Tr_init.2.1 29 = .ok (.iconst 0, 1) := by decide +kernel
theorem d_Tr_init_30 : decode m_Tr_init.2.1 30 = .ok (.putfield 27, 3) := by decide +kernel
theorem d_Tr_init_33 : decode m_Tr_init.2.1 33 = .ok (.aload_n 0, 1) := by decide +kernel
theorem d_Tr_init_34 : decode m_Tr_init.2.1 34 = .ok (.iconst 0, 1) := by decide +kernel
theorem d_Tr_init_35 : decode m_Tr_init.2.1 35 = .ok (.putfield 31, 3) := by decide +kernel
theorem d_Tr_init_38 : decode m_Tr_init.2.1 38 = .ok (.aload_n 0, 1) := by decide +kernel
theorem d_Tr_init_39 : decode m_Tr_init.2.1 39 = .ok (.iconst (-1), 1) := by decide +kernel
theorem d_Tr_init_40 : decode m_Tr_init.2.1 40 = .ok (.putfield 34, 3) := by decide +kernel
theorem d_Tr_init_43 : decode m_Tr_init.2.1 43 = .ok (.return_, 1) := by decide +kernel
theorem d_Tr_isOf_0 : decode m_Tr_isOf.2.1 0 = .ok (.aload_n 0, 1) := by decide +kernel
theorem d_Tr_isOf_1 : decode m_Tr_isOf.2.1 1 = .ok (.getfield 12, 3) := by decide +kernel
theorem d_Tr_isOf_4 : decode m_Tr_isOf.2.1 4 = .ok (.aload_n 1, 1) := by decide +kernel
theorem d_Tr_isOf_5 : decode m_Tr_isOf.2.1 5 = .ok (.invokevirtual 45, 3) := by decide +kernel
theorem d_Tr_isOf_8 : decode m_Tr_isOf.2.1 8 = .ok (.ireturn, 1) := by decide +kernel
theorem d_Tr_fits_0 : decode m_Tr_fits.2.1 0 = .ok (.aload_n 0, 1) := by decide +kernel
theorem d_Tr_fits_1 : decode m_Tr_fits.2.1 1 = .ok (.aload_n 1, 1) := by decide +kernel
theorem d_Tr_fits_2 : decode m_Tr_fits.2.1 2 = .ok (.invokevirtual 56, 3) := by decide +kernel
theorem d_Tr_fits_5 : decode m_Tr_fits.2.1 5 = .ok (.ifCond .ne 15, 3) := by decide +kernel
theorem d_Tr_fits_8 : decode m_Tr_fits.2.1 8 = .ok (.aload_n 0, 1) := by decide +kernel
theorem d_Tr_fits_9 : decode m_Tr_fits.2.1 9 = .ok (.aload_n 1, 1) := by decide +kernel
theorem d_Tr_fits_10 : decode m_Tr_fits.2.1 10 = .ok (.invokevirtual 60, 3) := by decide +kernel
theorem d_Tr_fits_13 : decode m_Tr_fits.2.1 13 = .ok (.ifCond .ne 7, 3) := by decide +kernel
theorem d_Tr_fits_16 : decode m_Tr_fits.2.1 16 = .ok (.iconst 1, 1) := by decide +kernel
theorem d_Tr_fits_17 : decode m_Tr_fits.2.1 17 = .ok (.goto 4, 3) := by decide +kernel
theorem d_Tr_fits_20 : decode m_Tr_fits.2.1 20 = .ok (.iconst 0, 1) := by decide +kernel
theorem d_Tr_fits_21 : decode m_Tr_fits.2.1 21 = .ok (.ireturn, 1) := by decide +kernel
theorem d_Tr_askedAndChanged_0 : decode m_Tr_askedAndChanged.2.1 0 = .ok (.aload_n 0, 1) := by decide +kernel
theorem d_Tr_askedAndChanged_1 : decode m_Tr_askedAndChanged.2.1 1 = .ok (.getfield 31, 3) := by decide +kernel
theorem d_Tr_askedAndChanged_4 : decode m_Tr_askedAndChanged.2.1 4 = .ok (.aload_n 0, 1) := by decide +kernel
theorem d_Tr_askedAndChanged_5 : decode m_Tr_askedAndChanged.2.1 5 = .ok (.getfield 23, 3) := by decide +kernel
theorem d_Tr_askedAndChanged_8 : decode m_Tr_askedAndChanged.2.1 8 = .ok (.invokevirtual 52, 3) := by decide +kernel
theorem d_Tr_askedAndChanged_11 : decode m_Tr_askedAndChanged.2.1 11 = .ok (.aload_n 1, 1) := by decide +kernel
theorem d_Tr_askedAndChanged_12 : decode m_Tr_askedAndChanged.2.1 12 = .ok (.invokevirtual 52, 3) := by decide +kernel
theorem d_Tr_askedAndChanged_15 : decode m_Tr_askedAndChanged.2.1 15 = .ok (.ixor, 1) := by decide +kernel
theorem d_Tr_askedAndChanged_16 : decode m_Tr_askedAndChanged.2.1 16 = .ok (.iand, 1) := by decide +kernel
theorem d_Tr_askedAndChanged_17 : decode m_Tr_askedAndChanged.2.1 17 = .ok (.ireturn, 1) := by decide +kernel
theorem d_Tr_readAndChanged_0 : decode m_Tr_readAndChanged.2.1 0 = .ok (.iconst 0, 1) := by decide +kernel
theorem d_Tr_readAndChanged_1 : decode m_Tr_readAndChanged.2.1 1 = .ok (.istore_n 2, 1) := by decide +kernel
theorem d_Tr_readAndChanged_2 : decode m_Tr_readAndChanged.2.1 2 = .ok (.iconst 0, 1) := by decide +kernel
theorem d_Tr_readAndChanged_3 : decode m_Tr_readAndChanged.2.1 3 = .ok (.istore_n 3, 1) := by decide +kernel
theorem d_Tr_readAndChanged_4 : decode m_Tr_readAndChanged.2.1 4 = .ok (.iload_n 3, 1) := by decide +kernel
theorem d_Tr_readAndChanged_5 : decode m_Tr_readAndChanged.2.1 5 = .ok (.bipush 12, 2) := by decide +kernel
theorem d_Tr_readAndChanged_7 : decode m_Tr_readAndChanged.2.1 7 = .ok (.if_icmp .ge 39, 3) := by decide +kernel
theorem d_Tr_readAndChanged_10 : decode m_Tr_readAndChanged.2.1 10 = .ok (.aload_n 0, 1) := by decide +kernel
theorem d_Tr_readAndChanged_11 : decode m_Tr_readAndChanged.2.1 11 = .ok (.getfield 27, 3) := by decide +kernel
theorem d_Tr_readAndChanged_14 : decode m_Tr_readAndChanged.2.1 14 = .ok (.iconst 1, 1) := by decide +kernel
theorem d_Tr_readAndChanged_15 : decode m_Tr_readAndChanged.2.1 15 = .ok (.iload_n 3, 1) := by decide +kernel
theorem d_Tr_readAndChanged_16 : decode m_Tr_readAndChanged.2.1 16 = .ok (.ishl, 1) := by decide +kernel
theorem d_Tr_readAndChanged_17 : decode m_Tr_readAndChanged.2.1 17 = .ok (.iand, 1) := by decide +kernel
theorem d_Tr_readAndChanged_18 : decode m_Tr_readAndChanged.2.1 18 = .ok (.ifCond .eq 22, 3) := by decide +kernel
theorem d_Tr_readAndChanged_21 : decode m_Tr_readAndChanged.2.1 21 = .ok (.aload_n 0, 1) := by decide +kernel
theorem d_Tr_readAndChanged_22 : decode m_Tr_readAndChanged.2.1 22 = .ok (.getfield 23, 3) := by decide +kernel
theorem d_Tr_readAndChanged_25 : decode m_Tr_readAndChanged.2.1 25 = .ok (.iload_n 3, 1) := by decide +kernel
theorem d_Tr_readAndChanged_26 : decode m_Tr_readAndChanged.2.1 26 = .ok (.aload_n 1, 1) := by decide +kernel
theorem d_Tr_readAndChanged_27 : decode m_Tr_readAndChanged.2.1 27 = .ok (.iload_n 3, 1) := by decide +kernel
theorem d_Tr_readAndChanged_28 : decode m_Tr_readAndChanged.2.1 28 = .ok (.invokevirtual 49, 3) := by decide +kernel
theorem d_Tr_readAndChanged_31 : decode m_Tr_readAndChanged.2.1 31 = .ok (.ifCond .ne 9, 3) := by decide +kernel
theorem d_Tr_readAndChanged_34 : decode m_Tr_readAndChanged.2.1 34 = .ok (.iload_n 2, 1) := by decide +kernel
theorem d_Tr_readAndChanged_35 : decode m_Tr_readAndChanged.2.1 35 = .ok (.iconst 1, 1) := by decide +kernel
theorem d_Tr_readAndChanged_36 : decode m_Tr_readAndChanged.2.1 36 = .ok (.iload_n 3, 1) := by decide +kernel
theorem d_Tr_readAndChanged_37 : decode m_Tr_readAndChanged.2.1 37 = .ok (.ishl, 1) := by decide +kernel
theorem d_Tr_readAndChanged_38 : decode m_Tr_readAndChanged.2.1 38 = .ok (.ior, 1) := by decide +kernel
theorem d_Tr_readAndChanged_39 : decode m_Tr_readAndChanged.2.1 39 = .ok (.istore_n 2, 1) := by decide +kernel
theorem d_Tr_readAndChanged_40 : decode m_Tr_readAndChanged.2.1 40 = .ok (.iinc 3 1, 3) := by decide +kernel
theorem d_Tr_readAndChanged_43 : decode m_Tr_readAndChanged.2.1 43 = .ok (.goto (-39), 3) := by decide +kernel
theorem d_Tr_readAndChanged_46 : decode m_Tr_readAndChanged.2.1 46 = .ok (.iload_n 2, 1) := by decide +kernel
theorem d_Tr_readAndChanged_47 : decode m_Tr_readAndChanged.2.1 47 = .ok (.ireturn, 1) := by decide +kernel
theorem d_Tr_begin_0 : decode m_Tr_begin.2.1 0 = .ok (.aload_n 0, 1) := by decide +kernel
theorem d_Tr_begin_1 : decode m_Tr_begin.2.1 1 = .ok (.getfield 12, 3) := by decide +kernel
theorem d_Tr_begin_4 : decode m_Tr_begin.2.1 4 = .ok (.aload_n 1, 1) := by decide +kernel
theorem d_Tr_begin_5 : decode m_Tr_begin.2.1 5 = .ok (.invokevirtual 37, 3) := by decide +kernel
theorem d_Tr_begin_8 : decode m_Tr_begin.2.1 8 = .ok (.aload_n 0, 1) := by decide +kernel
theorem d_Tr_begin_9 : decode m_Tr_begin.2.1 9 = .ok (.getfield 23, 3) := by decide +kernel
theorem d_Tr_begin_12 : decode m_Tr_begin.2.1 12 = .ok (.aload_n 2, 1) := by decide +kernel
theorem d_Tr_begin_13 : decode m_Tr_begin.2.1 13 = .ok (.invokevirtual 41, 3) := by decide +kernel
theorem d_Tr_begin_16 : decode m_Tr_begin.2.1 16 = .ok (.aload_n 0, 1) := by decide +kernel
theorem d_Tr_begin_17 : decode m_Tr_begin.2.1 17 = .ok (.iconst 0, 1) := by decide +kernel
theorem d_Tr_begin_18 : decode m_Tr_begin.2.1 18 = .ok (.putfield 27, 3) := by decide +kernel
theorem d_Tr_begin_21 : decode m_Tr_begin.2.1 21 = .ok (.aload_n 0, 1) := by decide +kernel
theorem d_Tr_begin_22 : decode m_Tr_begin.2.1 22 = .ok (.iconst 0, 1) := by decide +kernel
theorem d_Tr_begin_23 : decode m_Tr_begin.2.1 23 = .ok (.putfield 31, 3) := by decide +kernel
theorem d_Tr_begin_26 : decode m_Tr_begin.2.1 26 = .ok (.aload_n 0, 1) := by decide +kernel
theorem d_Tr_begin_27 : decode m_Tr_begin.2.1 27 = .ok (.iconst (-1), 1) := by decide +kernel
theorem d_Tr_begin_28 : decode m_Tr_begin.2.1 28 = .ok (.putfield 34, 3) := by decide +kernel
theorem d_Tr_begin_31 : decode m_Tr_begin.2.1 31 = .ok (.return_, 1) := by decide +kernel
theorem d_Tr_putBack_0 : decode m_Tr_putBack.2.1 0 = .ok (.aload_n 0, 1) := by decide +kernel
theorem d_Tr_putBack_1 : decode m_Tr_putBack.2.1 1 = .ok (.getfield 34, 3) := by decide +kernel
theorem d_Tr_putBack_4 : decode m_Tr_putBack.2.1 4 = .ok (.iconst (-1), 1) := by decide +kernel
theorem d_Tr_putBack_5 : decode m_Tr_putBack.2.1 5 = .ok (.if_icmp .eq 20, 3) := by decide +kernel
theorem d_Tr_putBack_8 : decode m_Tr_putBack.2.1 8 = .ok (.aload_n 1, 1) := by decide +kernel
theorem d_Tr_putBack_9 : decode m_Tr_putBack.2.1 9 = .ok (.aload_n 0, 1) := by decide +kernel
theorem d_Tr_putBack_10 : decode m_Tr_putBack.2.1 10 = .ok (.getfield 34, 3) := by decide +kernel
theorem d_Tr_putBack_13 : decode m_Tr_putBack.2.1 13 = .ok (.aload_n 0, 1) := by decide +kernel
theorem d_Tr_putBack_14 : decode m_Tr_putBack.2.1 14 = .ok (.getfield 23, 3) := by decide +kernel
theorem d_Tr_putBack_17 : decode m_Tr_putBack.2.1 17 = .ok (.bipush 12, 2) := by decide +kernel
theorem d_Tr_putBack_19 : decode m_Tr_putBack.2.1 19 = .ok (.invokevirtual 49, 3) := by decide +kernel
theorem d_Tr_putBack_22 : decode m_Tr_putBack.2.1 22 = .ok (.ifCond .eq 5, 3) := by decide +kernel
theorem d_Tr_putBack_25 : decode m_Tr_putBack.2.1 25 = .ok (.iconst 0, 1) := by decide +kernel
theorem d_Tr_putBack_26 : decode m_Tr_putBack.2.1 26 = .ok (.ireturn, 1) := by decide +kernel
theorem d_Tr_putBack_27 : decode m_Tr_putBack.2.1 27 = .ok (.aload_n 1, 1) := by decide +kernel
theorem d_Tr_putBack_28 : decode m_Tr_putBack.2.1 28 = .ok (.aload_n 0, 1) := by decide +kernel
theorem d_Tr_putBack_29 : decode m_Tr_putBack.2.1 29 = .ok (.getfield 34, 3) := by decide +kernel
theorem d_Tr_putBack_32 : decode m_Tr_putBack.2.1 32 = .ok (.aload_n 0, 1) := by decide +kernel
theorem d_Tr_putBack_33 : decode m_Tr_putBack.2.1 33 = .ok (.getfield 23, 3) := by decide +kernel
theorem d_Tr_putBack_36 : decode m_Tr_putBack.2.1 36 = .ok (.bipush 12, 2) := by decide +kernel
theorem d_Tr_putBack_38 : decode m_Tr_putBack.2.1 38 = .ok (.invokevirtual 63, 3) := by decide +kernel
theorem d_Tr_putBack_41 : decode m_Tr_putBack.2.1 41 = .ok (.iconst 1, 1) := by decide +kernel
theorem d_Tr_putBack_42 : decode m_Tr_putBack.2.1 42 = .ok (.ireturn, 1) := by decide +kernel
theorem d_Tr_written_0 : decode m_Tr_written.2.1 0 = .ok (.aload_n 0, 1) := by decide +kernel
theorem d_Tr_written_1 : decode m_Tr_written.2.1 1 = .ok (.getfield 34, 3) := by decide +kernel
theorem d_Tr_written_4 : decode m_Tr_written.2.1 4 = .ok (.iconst (-1), 1) := by decide +kernel
theorem d_Tr_written_5 : decode m_Tr_written.2.1 5 = .ok (.if_icmp .ne 7, 3) := by decide +kernel
theorem d_Tr_written_8 : decode m_Tr_written.2.1 8 = .ok (.iconst 0, 1) := by decide +kernel
theorem d_Tr_written_9 : decode m_Tr_written.2.1 9 = .ok (.goto 9, 3) := by decide +kernel
theorem d_Tr_written_12 : decode m_Tr_written.2.1 12 = .ok (.iconst 1, 1) := by decide +kernel
theorem d_Tr_written_13 : decode m_Tr_written.2.1 13 = .ok (.aload_n 0, 1) := by decide +kernel
theorem d_Tr_written_14 : decode m_Tr_written.2.1 14 = .ok (.getfield 34, 3) := by decide +kernel
theorem d_Tr_written_17 : decode m_Tr_written.2.1 17 = .ok (.ishl, 1) := by decide +kernel
theorem d_Tr_written_18 : decode m_Tr_written.2.1 18 = .ok (.ireturn, 1) := by decide +kernel
theorem d_Tr_isInTheWayOf_0 : decode m_Tr_isInTheWayOf.2.1 0 = .ok (.aload_n 0, 1) := by decide +kernel
theorem d_Tr_isInTheWayOf_1 : decode m_Tr_isInTheWayOf.2.1 1 = .ok (.invokevirtual 66, 3) := by decide +kernel
theorem d_Tr_isInTheWayOf_4 : decode m_Tr_isInTheWayOf.2.1 4 = .ok (.aload_n 1, 1) := by decide +kernel
theorem d_Tr_isInTheWayOf_5 : decode m_Tr_isInTheWayOf.2.1 5 = .ok (.invokevirtual 69, 3) := by decide +kernel
theorem d_Tr_isInTheWayOf_8 : decode m_Tr_isInTheWayOf.2.1 8 = .ok (.iand, 1) := by decide +kernel
theorem d_Tr_isInTheWayOf_9 : decode m_Tr_isInTheWayOf.2.1 9 = .ok (.ifCond .ne 15, 3) := by decide +kernel
theorem d_Tr_isInTheWayOf_12 : decode m_Tr_isInTheWayOf.2.1 12 = .ok (.aload_n 1, 1) := by decide +kernel
theorem d_Tr_isInTheWayOf_13 : decode m_Tr_isInTheWayOf.2.1 13 = .ok (.invokevirtual 66, 3) := by decide +kernel
theorem d_Tr_isInTheWayOf_16 : decode m_Tr_isInTheWayOf.2.1 16 = .ok (.aload_n 0, 1) := by decide +kernel
theorem d_Tr_isInTheWayOf_17 : decode m_Tr_isInTheWayOf.2.1 17 = .ok (.invokevirtual 69, 3) := by decide +kernel
theorem d_Tr_isInTheWayOf_20 : decode m_Tr_isInTheWayOf.2.1 20 = .ok (.iand, 1) := by decide +kernel
theorem d_Tr_isInTheWayOf_21 : decode m_Tr_isInTheWayOf.2.1 21 = .ok (.ifCond .eq 7, 3) := by decide +kernel
theorem d_Tr_isInTheWayOf_24 : decode m_Tr_isInTheWayOf.2.1 24 = .ok (.iconst 1, 1) := by decide +kernel
theorem d_Tr_isInTheWayOf_25 : decode m_Tr_isInTheWayOf.2.1 25 = .ok (.goto 4, 3) := by decide +kernel
theorem d_Tr_isInTheWayOf_28 : decode m_Tr_isInTheWayOf.2.1 28 = .ok (.iconst 0, 1) := by decide +kernel
theorem d_Tr_isInTheWayOf_29 : decode m_Tr_isInTheWayOf.2.1 29 = .ok (.ireturn, 1) := by decide +kernel
theorem d_Tr_touched_0 : decode m_Tr_touched.2.1 0 = .ok (.aload_n 0, 1) := by decide +kernel
theorem d_Tr_touched_1 : decode m_Tr_touched.2.1 1 = .ok (.getfield 27, 3) := by decide +kernel
theorem d_Tr_touched_4 : decode m_Tr_touched.2.1 4 = .ok (.aload_n 0, 1) := by decide +kernel
theorem d_Tr_touched_5 : decode m_Tr_touched.2.1 5 = .ok (.getfield 31, 3) := by decide +kernel
theorem d_Tr_touched_8 : decode m_Tr_touched.2.1 8 = .ok (.ior, 1) := by decide +kernel
theorem d_Tr_touched_9 : decode m_Tr_touched.2.1 9 = .ok (.aload_n 0, 1) := by decide +kernel
theorem d_Tr_touched_10 : decode m_Tr_touched.2.1 10 = .ok (.invokevirtual 66, 3) := by decide +kernel
theorem d_Tr_touched_13 : decode m_Tr_touched.2.1 13 = .ok (.ior, 1) := by decide +kernel
theorem d_Tr_touched_14 : decode m_Tr_touched.2.1 14 = .ok (.ireturn, 1) := by decide +kernel
theorem d_Tr_part_0 : decode m_Tr_part.2.1 0 = .ok (.iload_n 1, 1) := by decide +kernel
theorem d_Tr_part_1 : decode m_Tr_part.2.1 1 = .ok (.tableswitch 92 0 4 #[35, 43, 48, 53, 58], 35) := by decide +kernel
theorem d_Tr_part_36 : decode m_Tr_part.2.1 36 = .ok (.aload_n 0, 1) := by decide +kernel
theorem d_Tr_part_37 : decode m_Tr_part.2.1 37 = .ok (.getfield 12, 3) := by decide +kernel
theorem d_Tr_part_40 : decode m_Tr_part.2.1 40 = .ok (.invokevirtual 72, 3) := by decide +kernel
theorem d_Tr_part_43 : decode m_Tr_part.2.1 43 = .ok (.ireturn, 1) := by decide +kernel
theorem d_Tr_part_44 : decode m_Tr_part.2.1 44 = .ok (.aload_n 0, 1) := by decide +kernel
theorem d_Tr_part_45 : decode m_Tr_part.2.1 45 = .ok (.getfield 27, 3) := by decide +kernel
theorem d_Tr_part_48 : decode m_Tr_part.2.1 48 = .ok (.ireturn, 1) := by decide +kernel
theorem d_Tr_part_49 : decode m_Tr_part.2.1 49 = .ok (.aload_n 0, 1) := by decide +kernel
theorem d_Tr_part_50 : decode m_Tr_part.2.1 50 = .ok (.getfield 31, 3) := by decide +kernel
theorem d_Tr_part_53 : decode m_Tr_part.2.1 53 = .ok (.ireturn, 1) := by decide +kernel
theorem d_Tr_part_54 : decode m_Tr_part.2.1 54 = .ok (.aload_n 0, 1) := by decide +kernel
theorem d_Tr_part_55 : decode m_Tr_part.2.1 55 = .ok (.getfield 34, 3) := by decide +kernel
theorem d_Tr_part_58 : decode m_Tr_part.2.1 58 = .ok (.ireturn, 1) := by decide +kernel
theorem d_Tr_part_59 : decode m_Tr_part.2.1 59 = .ok (.aload_n 0, 1) := by decide +kernel
theorem d_Tr_part_60 : decode m_Tr_part.2.1 60 = .ok (.getfield 34, 3) := by decide +kernel
theorem d_Tr_part_63 : decode m_Tr_part.2.1 63 = .ok (.iconst (-1), 1) := by decide +kernel
theorem d_Tr_part_64 : decode m_Tr_part.2.1 64 = .ok (.if_icmp .eq 15, 3) := by decide +kernel
theorem d_Tr_part_67 : decode m_Tr_part.2.1 67 = .ok (.aload_n 0, 1) := by decide +kernel
theorem d_Tr_part_68 : decode m_Tr_part.2.1 68 = .ok (.getfield 23, 3) := by decide +kernel
theorem d_Tr_part_71 : decode m_Tr_part.2.1 71 = .ok (.bipush 12, 2) := by decide +kernel
theorem d_Tr_part_73 : decode m_Tr_part.2.1 73 = .ok (.invokevirtual 75, 3) := by decide +kernel
theorem d_Tr_part_76 : decode m_Tr_part.2.1 76 = .ok (.ifCond .ne 7, 3) := by decide +kernel
theorem d_Tr_part_79 : decode m_Tr_part.2.1 79 = .ok (.iconst (-1), 1) := by decide +kernel
theorem d_Tr_part_80 : decode m_Tr_part.2.1 80 = .ok (.goto 12, 3) := by decide +kernel
theorem d_Tr_part_83 : decode m_Tr_part.2.1 83 = .ok (.aload_n 0, 1) := by decide +kernel
theorem d_Tr_part_84 : decode m_Tr_part.2.1 84 = .ok (.getfield 23, 3) := by decide +kernel
theorem d_Tr_part_87 : decode m_Tr_part.2.1 87 = .ok (.bipush 12, 2) := by decide +kernel
theorem d_Tr_part_89 : decode m_Tr_part.2.1 89 = .ok (.invokevirtual 79, 3) := by decide +kernel
theorem d_Tr_part_92 : decode m_Tr_part.2.1 92 = .ok (.ireturn, 1) := by decide +kernel
theorem d_Tr_part_93 : decode m_Tr_part.2.1 93 = .ok (.iconst (-1), 1) := by decide +kernel
theorem d_Tr_part_94 : decode m_Tr_part.2.1 94 = .ok (.ireturn, 1) := by decide +kernel
end
section
/-! Rows that decode: laid by program. -/
theorem d_TB_init_0 : decode m_TB_init.2.1 0 = .ok (.aload_n 0, 1) := by decide +kernel
theorem d_TB_init_1 : decode m_TB_init.2.1 1 = .ok (.invokespecial 1, 3) := by decide +kernel
theorem d_TB_init_4 : decode m_TB_init.2.1 4 = .ok (.aload_n 0, 1) := by decide +kernel
theorem d_TB_init_5 : decode m_TB_init.2.1 5 = .ok (.new 7, 3) := by decide +kernel
theorem d_TB_init_8 : decode m_TB_init.2.1 8 = .ok (.dup, 1) := by decide +kernel
theorem d_TB_init_9 : decode m_TB_init.2.1 9 = .ok (.invokespecial 9, 3) := by decide +kernel
theorem d_TB_init_12 : decode m_TB_init.2.1 12 = .ok (.putfield 10, 3) := by decide +kernel
theorem d_TB_init_15 : decode m_TB_init.2.1 15 = .ok (.aload_n 0, 1) := by decide +kernel
theorem d_TB_init_16 : decode m_TB_init.2.1 16 = .ok (.new 16, 3) := by decide +kernel
theorem d_TB_init_19 : decode m_TB_init.2.1 19 = .ok (.dup, 1) := by decide +kernel
theorem d_TB_init_20 : decode m_TB_init.2.1 20 = .ok (.invokespecial 18, 3) := by decide +kernel
theorem d_TB_init_23 : decode m_TB_init.2.1 23 = .ok (.putfield 19, 3) := by decide +kernel
theorem d_TB_init_26 : decode m_TB_init.2.1 26 = .ok (.aload_n 0, 1) := by decide +kernel
theorem d_TB_init_27 : decode m_TB_init.2.1 27 = .ok (.new 23, 3) := by decide +kernel
theorem d_TB_init_30 : decode m_TB_init.2.1 30 = .ok (.dup, 1) := by decide +kernel
theorem d_TB_init_31 : decode m_TB_init.2.1 31 = .ok (.bipush 12, 2) := by decide +kernel
theorem d_TB_init_33 : decode m_TB_init.2.1 33 = .ok (.invokespecial 25, 3) := by decide +kernel
theorem d_TB_init_36 : decode m_TB_init.2.1 36 = .ok (.putfield 28, 3) := by decide +kernel
theorem d_TB_init_39 : decode m_TB_init.2.1 39 = .ok (.aload_n 0, 1) := by decide +kernel
theorem d_TB_init_40 : decode m_TB_init.2.1 40 = .ok (.new 23, 3) := by decide +kernel
theorem d_TB_init_43 : decode m_TB_init.2.1 43 = .ok (.dup, 1) := by decide +kernel
theorem d_TB_init_44 : decode m_TB_init.2.1 44 = .ok (.bipush 12, 2) := by decide +kernel
theorem d_TB_init_46 : decode m_TB_init.2.1 46 = .ok (.invokespecial 25, 3) := by decide +kernel
theorem d_TB_init_49 : decode m_TB_init.2.1 49 = .ok (.putfield 32, 3) := by decide +kernel
theorem d_TB_init_52 : decode m_TB_init.2.1 52 = .ok (.aload_n 0, 1) := by decide +kernel
theorem d_TB_init_53 : decode m_TB_init.2.1 53 = .ok (.new 35, 3) := by decide +kernel
theorem d_TB_init_56 : decode m_TB_init.2.1 56 = .ok (.dup, 1) := by decide +kernel
theorem d_TB_init_57 : decode m_TB_init.2.1 57 = .ok (.invokespecial 37, 3) := by decide +kernel
theorem d_TB_init_60 : decode m_TB_init.2.1 60 = .ok (.putfield 38, 3) := by decide +kernel
theorem d_TB_init_63 : decode m_TB_init.2.1 63 = .ok (.aload_n 0, 1) := by decide +kernel
theorem d_TB_init_64 : decode m_TB_init.2.1 64 = .ok (.new 42, 3) := by decide +kernel
theorem d_TB_init_67 : decode m_TB_init.2.1 67 = .ok (.dup, 1) := by decide +kernel
theorem d_TB_init_68 : decode m_TB_init.2.1 68 = .ok (.invokespecial 44, 3) := by decide +kernel
theorem d_TB_init_71 : decode m_TB_init.2.1 71 = .ok (.putfield 45, 3) := by decide +kernel
theorem d_TB_init_74 : decode m_TB_init.2.1 74 = .ok (.aload_n 0, 1) := by decide +kernel
theorem d_TB_init_75 : decode m_TB_init.2.1 75 = .ok (.iconst 0, 1) := by decide +kernel
theorem d_TB_init_76 : decode m_TB_init.2.1 76 = .ok (.putfield 49, 3) := by decide +kernel
theorem d_TB_init_79 : decode m_TB_init.2.1 79 = .ok (.aload_n 0, 1) := by decide +kernel
theorem d_TB_init_80 : decode m_TB_init.2.1 80 = .ok (.iconst 0, 1) := by decide +kernel
theorem d_TB_init_81 : decode m_TB_init.2.1 81 = .ok (.putfield 53, 3) := by decide +kernel
theorem d_TB_init_84 : decode m_TB_init.2.1 84 = .ok (.return_, 1) := by decide +kernel
theorem d_TB_type_0 : decode m_TB_type.2.1 0 = .ok (.aload_n 0, 1) := by decide +kernel
theorem d_TB_type_1 : decode m_TB_type.2.1 1 = .ok (.getfield 10, 3) := by decide +kernel
theorem d_TB_type_4 : decode m_TB_type.2.1 4 = .ok (.iload_n 1, 1) := by decide +kernel
theorem d_TB_type_5 : decode m_TB_type.2.1 5 = .ok (.invokevirtual 57, 3) := by decide +kernel
theorem d_TB_type_8 : decode m_TB_type.2.1 8 = .ok (.ireturn, 1) := by decide +kernel
theorem d_TB_commands_0 : decode m_TB_commands.2.1 0 = .ok (.aload_n 0, 1) := by decide +kernel
theorem d_TB_commands_1 : decode m_TB_commands.2.1 1 = .ok (.getfield 19, 3) := by decide +kernel
theorem d_TB_commands_4 : decode m_TB_commands.2.1 4 = .ok (.invokevirtual 94, 3) := by decide +kernel
theorem d_TB_commands_7 : decode m_TB_commands.2.1 7 = .ok (.ireturn, 1) := by decide +kernel
theorem d_TB_put_0 : decode m_TB_put.2.1 0 = .ok (.iload_n 1, 1) := by decide +kernel
theorem d_TB_put_1 : decode m_TB_put.2.1 1 = .ok (.invokestatic 98, 3) := by decide +kernel
theorem d_TB_put_4 : decode m_TB_put.2.1 4 = .ok (.ifCond .eq 15, 3) := by decide +kernel
theorem d_TB_put_7 : decode m_TB_put.2.1 7 = .ok (.aload_n 0, 1) := by decide +kernel
theorem d_TB_put_8 : decode m_TB_put.2.1 8 = .ok (.getfield 28, 3) := by decide +kernel
theorem d_TB_put_11 : decode m_TB_put.2.1 11 = .ok (.iload_n 1, 1) := by decide +kernel
theorem d_TB_put_12 : decode m_TB_put.2.1 12 = .ok (.iload_n 2, 1) := by decide +kernel
theorem d_TB_put_13 : decode m_TB_put.2.1 13 = .ok (.invokevirtual 102, 3) := by decide +kernel
theorem d_TB_put_16 : decode m_TB_put.2.1 16 = .ok (.ifCond .ne 5, 3) := by decide +kernel
theorem d_TB_put_19 : decode m_TB_put.2.1 19 = .ok (.iconst (-1), 1) := by decide +kernel
theorem d_TB_put_20 : decode m_TB_put.2.1 20 = .ok (.ireturn, 1) := by decide +kernel
theorem d_TB_put_21 : decode m_TB_put.2.1 21 = .ok (.aload_n 0, 1) := by decide +kernel
theorem d_TB_put_22 : decode m_TB_put.2.1 22 = .ok (.getfield 28, 3) := by decide +kernel
theorem d_TB_put_25 : decode m_TB_put.2.1 25 = .ok (.iload_n 1, 1) := by decide +kernel
theorem d_TB_put_26 : decode m_TB_put.2.1 26 = .ok (.invokevirtual 105, 3) := by decide +kernel
theorem d_TB_put_29 : decode m_TB_put.2.1 29 = .ok (.ireturn, 1) := by decide +kernel
theorem d_TB_isFile_0 : decode m_TB_isFile.2.1 0 = .ok (.iload_n 0, 1) := by decide +kernel
theorem d_TB_isFile_1 : decode m_TB_isFile.2.1 1 = .ok (.ifCond .lt 13, 3) := by decide +kernel
theorem d_TB_isFile_4 : decode m_TB_isFile.2.1 4 = .ok (.iload_n 0, 1) := by decide +kernel
theorem d_TB_isFile_5 : decode m_TB_isFile.2.1 5 = .ok (.bipush 12, 2) := by decide +kernel
theorem d_TB_isFile_7 : decode m_TB_isFile.2.1 7 = .ok (.if_icmp .ge 7, 3) := by decide +kernel
theorem d_TB_isFile_10 : decode m_TB_isFile.2.1 10 = .ok (.iconst 1, 1) := by decide +kernel
theorem d_TB_isFile_11 : decode m_TB_isFile.2.1 11 = .ok (.goto 4, 3) := by decide +kernel
theorem d_TB_isFile_14 : decode m_TB_isFile.2.1 14 = .ok (.iconst 0, 1) := by decide +kernel
theorem d_TB_isFile_15 : decode m_TB_isFile.2.1 15 = .ok (.ireturn, 1) := by decide +kernel
theorem d_TB_remove_0 : decode m_TB_remove.2.1 0 = .ok (.iload_n 1, 1) := by decide +kernel
theorem d_TB_remove_1 : decode m_TB_remove.2.1 1 = .ok (.invokestatic 98, 3) := by decide +kernel
theorem d_TB_remove_4 : decode m_TB_remove.2.1 4 = .ok (.ifCond .eq 14, 3) := by decide +kernel
theorem d_TB_remove_7 : decode m_TB_remove.2.1 7 = .ok (.aload_n 0, 1) := by decide +kernel
theorem d_TB_remove_8 : decode m_TB_remove.2.1 8 = .ok (.getfield 28, 3) := by decide +kernel
theorem d_TB_remove_11 : decode m_TB_remove.2.1 11 = .ok (.iload_n 1, 1) := by decide +kernel
theorem d_TB_remove_12 : decode m_TB_remove.2.1 12 = .ok (.invokevirtual 108, 3) := by decide +kernel
theorem d_TB_remove_15 : decode m_TB_remove.2.1 15 = .ok (.ifCond .ne 5, 3) := by decide +kernel
theorem d_TB_remove_18 : decode m_TB_remove.2.1 18 = .ok (.iconst 0, 1) := by decide +kernel
theorem d_TB_remove_19 : decode m_TB_remove.2.1 19 = .ok (.ireturn, 1) := by decide +kernel
theorem d_TB_remove_20 : decode m_TB_remove.2.1 20 = .ok (.aload_n 0, 1) := by decide +kernel
theorem d_TB_remove_21 : decode m_TB_remove.2.1 21 = .ok (.getfield 28, 3) := by decide +kernel
theorem d_TB_remove_24 : decode m_TB_remove.2.1 24 = .ok (.iload_n 1, 1) := by decide +kernel
theorem d_TB_remove_25 : decode m_TB_remove.2.1 25 = .ok (.invokevirtual 111, 3) := by decide +kernel
theorem d_TB_remove_28 : decode m_TB_remove.2.1 28 = .ok (.iconst 1, 1) := by decide +kernel
theorem d_TB_remove_29 : decode m_TB_remove.2.1 29 = .ok (.ireturn, 1) := by decide +kernel
theorem d_TB_did_0 : decode m_TB_did.2.1 0 = .ok (.aload_n 0, 1) := by decide +kernel
theorem d_TB_did_1 : decode m_TB_did.2.1 1 = .ok (.iload_n 1, 1) := by decide +kernel
theorem d_TB_did_2 : decode m_TB_did.2.1 2 = .ok (.invokevirtual 130, 3) := by decide +kernel
theorem d_TB_did_5 : decode m_TB_did.2.1 5 = .ok (.ifCond .eq 17, 3) := by decide +kernel
theorem d_TB_did_8 : decode m_TB_did.2.1 8 = .ok (.aload_n 0, 1) := by decide +kernel
theorem d_TB_did_9 : decode m_TB_did.2.1 9 = .ok (.getfield 45, 3) := by decide +kernel
theorem d_TB_did_12 : decode m_TB_did.2.1 12 = .ok (.iload_n 1, 1) := by decide +kernel
theorem d_TB_did_13 : decode m_TB_did.2.1 13 = .ok (.invokevirtual 133, 3) := by decide +kernel
theorem d_TB_did_16 : decode m_TB_did.2.1 16 = .ok (.getfield 137, 3) := by decide +kernel
theorem d_TB_did_19 : decode m_TB_did.2.1 19 = .ok (.goto 4, 3) := by decide +kernel
theorem d_TB_did_22 : decode m_TB_did.2.1 22 = .ok (.iconst (-1), 1) := by decide +kernel
theorem d_TB_did_23 : decode m_TB_did.2.1 23 = .ok (.ireturn, 1) := by decide +kernel
theorem d_TB_isTold_0 : decode m_TB_isTold.2.1 0 = .ok (.aload_n 0, 1) := by decide +kernel
theorem d_TB_isTold_1 : decode m_TB_isTold.2.1 1 = .ok (.getfield 49, 3) := by decide +kernel
theorem d_TB_isTold_4 : decode m_TB_isTold.2.1 4 = .ok (.ifCond .eq 18, 3) := by decide +kernel
theorem d_TB_isTold_7 : decode m_TB_isTold.2.1 7 = .ok (.aload_n 0, 1) := by decide +kernel
theorem d_TB_isTold_8 : decode m_TB_isTold.2.1 8 = .ok (.getfield 19, 3) := by decide +kernel
theorem d_TB_isTold_11 : decode m_TB_isTold.2.1 11 = .ok (.iload_n 1, 1) := by decide +kernel
theorem d_TB_isTold_12 : decode m_TB_isTold.2.1 12 = .ok (.invokevirtual 172, 3) := by decide +kernel
theorem d_TB_isTold_15 : decode m_TB_isTold.2.1 15 = .ok (.ifCond .eq 7, 3) := by decide +kernel
theorem d_TB_isTold_18 : decode m_TB_isTold.2.1 18 = .ok (.iconst 1, 1) := by decide +kernel
theorem d_TB_isTold_19 : decode m_TB_isTold.2.1 19 = .ok (.goto 4, 3) := by decide +kernel
theorem d_TB_isTold_22 : decode m_TB_isTold.2.1 22 = .ok (.iconst 0, 1) := by decide +kernel
theorem d_TB_isTold_23 : decode m_TB_isTold.2.1 23 = .ok (.ireturn, 1) := by decide +kernel
theorem d_TB_why_0 : decode m_TB_why.2.1 0 = .ok (.aload_n 0, 1) := by decide +kernel
theorem d_TB_why_1 : decode m_TB_why.2.1 1 = .ok (.iload_n 1, 1) := by decide +kernel
theorem d_TB_why_2 : decode m_TB_why.2.1 2 = .ok (.invokevirtual 130, 3) := by decide +kernel
theorem d_TB_why_5 : decode m_TB_why.2.1 5 = .ok (.ifCond .eq 17, 3) := by decide +kernel
theorem d_TB_why_8 : decode m_TB_why.2.1 8 = .ok (.aload_n 0, 1) := by decide +kernel
theorem d_TB_why_9 : decode m_TB_why.2.1 9 = .ok (.getfield 45, 3) := by decide +kernel
theorem d_TB_why_12 : decode m_TB_why.2.1 12 = .ok (.iload_n 1, 1) := by decide +kernel
theorem d_TB_why_13 : decode m_TB_why.2.1 13 = .ok (.invokevirtual 133, 3) := by decide +kernel
theorem d_TB_why_16 : decode m_TB_why.2.1 16 = .ok (.getfield 142, 3) := by decide +kernel
theorem d_TB_why_19 : decode m_TB_why.2.1 19 = .ok (.goto 4, 3) := by decide +kernel
theorem d_TB_why_22 : decode m_TB_why.2.1 22 = .ok (.iconst (-1), 1) := by decide +kernel
theorem d_TB_why_23 : decode m_TB_why.2.1 23 = .ok (.ireturn, 1) := by decide +kernel
theorem d_TB_hazard_0 : decode m_TB_hazard.2.1 0 = .ok (.aload_n 0, 1) := by decide +kernel
theorem d_TB_hazard_1 : decode m_TB_hazard.2.1 1 = .ok (.getfield 49, 3) := by decide +kernel
theorem d_TB_hazard_4 : decode m_TB_hazard.2.1 4 = .ok (.ifCond .eq 14, 3) := by decide +kernel
theorem d_TB_hazard_7 : decode m_TB_hazard.2.1 7 = .ok (.aload_n 0, 1) := by decide +kernel
theorem d_TB_hazard_8 : decode m_TB_hazard.2.1 8 = .ok (.getfield 45, 3) := by decide +kernel
theorem d_TB_hazard_11 : decode m_TB_hazard.2.1 11 = .ok (.iload_n 1, 1) := by decide +kernel
theorem d_TB_hazard_12 : decode m_TB_hazard.2.1 12 = .ok (.invokevirtual 145, 3) := by decide +kernel
theorem d_TB_hazard_15 : decode m_TB_hazard.2.1 15 = .ok (.goto 4, 3) := by decide +kernel
theorem d_TB_hazard_18 : decode m_TB_hazard.2.1 18 = .ok (.iconst (-1), 1) := by decide +kernel
theorem d_TB_hazard_19 : decode m_TB_hazard.2.1 19 = .ok (.ireturn, 1) := by decide +kernel
theorem d_TB_again_0 : decode m_TB_again.2.1 0 = .ok (.aload_n 0, 1) := by decide +kernel
theorem d_TB_again_1 : decode m_TB_again.2.1 1 = .ok (.getfield 53, 3) := by decide +kernel
theorem d_TB_again_4 : decode m_TB_again.2.1 4 = .ok (.ireturn, 1) := by decide +kernel
theorem d_TB_traces_0 : decode m_TB_traces.2.1 0 = .ok (.aload_n 0, 1) := by decide +kernel
theorem d_TB_traces_1 : decode m_TB_traces.2.1 1 = .ok (.getfield 38, 3) := by decide +kernel
theorem d_TB_traces_4 : decode m_TB_traces.2.1 4 = .ok (.invokevirtual 148, 3) := by decide +kernel
theorem d_TB_traces_7 : decode m_TB_traces.2.1 7 = .ok (.ireturn, 1) := by decide +kernel
theorem d_TB_tear_0 : decode m_TB_tear.2.1 0 = .ok (.aload_n 0, 1) := by decide +kernel
theorem d_TB_tear_1 : decode m_TB_tear.2.1 1 = .ok (.getfield 38, 3) := by decide +kernel
theorem d_TB_tear_4 : decode m_TB_tear.2.1 4 = .ok (.iload_n 1, 1) := by decide +kernel
theorem d_TB_tear_5 : decode m_TB_tear.2.1 5 = .ok (.invokevirtual 160, 3) := by decide +kernel
theorem d_TB_tear_8 : decode m_TB_tear.2.1 8 = .ok (.ireturn, 1) := by decide +kernel
theorem d_TB_compact_0 : decode m_TB_compact.2.1 0 = .ok (.aload_n 0, 1) := by decide +kernel
theorem d_TB_compact_1 : decode m_TB_compact.2.1 1 = .ok (.getfield 38, 3) := by decide +kernel
theorem d_TB_compact_4 : decode m_TB_compact.2.1 4 = .ok (.invokevirtual 163, 3) := by decide +kernel
theorem d_TB_compact_7 : decode m_TB_compact.2.1 7 = .ok (.ireturn, 1) := by decide +kernel
theorem d_TB_size_0 : decode m_TB_size.2.1 0 = .ok (.iload_n 1, 1) := by decide +kernel
theorem d_TB_size_1 : decode m_TB_size.2.1 1 = .ok (.invokestatic 98, 3) := by decide +kernel
theorem d_TB_size_4 : decode m_TB_size.2.1 4 = .ok (.ifCond .eq 14, 3) := by decide +kernel
theorem d_TB_size_7 : decode m_TB_size.2.1 7 = .ok (.aload_n 0, 1) := by decide +kernel
theorem d_TB_size_8 : decode m_TB_size.2.1 8 = .ok (.getfield 28, 3) := by decide +kernel
theorem d_TB_size_11 : decode m_TB_size.2.1 11 = .ok (.iload_n 1, 1) := by decide +kernel
theorem d_TB_size_12 : decode m_TB_size.2.1 12 = .ok (.invokevirtual 108, 3) := by decide +kernel
theorem d_TB_size_15 : decode m_TB_size.2.1 15 = .ok (.ifCond .ne 5, 3) := by decide +kernel
theorem d_TB_size_18 : decode m_TB_size.2.1 18 = .ok (.iconst (-1), 1) := by decide +kernel
theorem d_TB_size_19 : decode m_TB_size.2.1 19 = .ok (.ireturn, 1) := by decide +kernel
theorem d_TB_size_20 : decode m_TB_size.2.1 20 = .ok (.aload_n 0, 1) := by decide +kernel
theorem d_TB_size_21 : decode m_TB_size.2.1 21 = .ok (.getfield 28, 3) := by decide +kernel
theorem d_TB_size_24 : decode m_TB_size.2.1 24 = .ok (.iload_n 1, 1) := by decide +kernel
theorem d_TB_size_25 : decode m_TB_size.2.1 25 = .ok (.invokevirtual 105, 3) := by decide +kernel
theorem d_TB_size_28 : decode m_TB_size.2.1 28 = .ok (.ireturn, 1) := by decide +kernel
theorem d_TB_command_0 : decode m_TB_command.2.1 0 = .ok (.aload_n 0, 1) := by decide +kernel
theorem d_TB_command_1 : decode m_TB_command.2.1 1 = .ok (.invokevirtual 61, 3) := by decide +kernel
theorem d_TB_command_4 : decode m_TB_command.2.1 4 = .ok (.aload_n 0, 1) := by decide +kernel
theorem d_TB_command_5 : decode m_TB_command.2.1 5 = .ok (.getfield 19, 3) := by decide +kernel
theorem d_TB_command_8 : decode m_TB_command.2.1 8 = .ok (.invokevirtual 64, 3) := by decide +kernel
theorem d_TB_command_11 : decode m_TB_command.2.1 11 = .ok (.ifCond .eq 11, 3) := by decide +kernel
theorem d_TB_command_14 : decode m_TB_command.2.1 14 = .ok (.new 68, 3) := by decide +kernel
theorem d_TB_command_17 : decode m_TB_command.2.1 17 = .ok (.dup, 1) := by decide +kernel
theorem d_TB_command_18 : decode m_TB_command.2.1 18 = .ok (.invokespecial 70, 3) := by decide +kernel
theorem d_TB_command_21 : decode m_TB_command.2.1 21 = .ok (.athrow, 1) := by decide +kernel
theorem d_TB_command_22 : decode m_TB_command.2.1 22 = .ok (.aload_n 0, 1) := by decide +kernel
theorem d_TB_command_23 : decode m_TB_command.2.1 23 = .ok (.getfield 19, 3) := by decide +kernel
theorem d_TB_command_26 : decode m_TB_command.2.1 26 = .ok (.aload_n 0, 1) := by decide +kernel
theorem d_TB_command_27 : decode m_TB_command.2.1 27 = .ok (.getfield 10, 3) := by decide +kernel
theorem d_TB_command_30 : decode m_TB_command.2.1 30 = .ok (.invokevirtual 71, 3) := by decide +kernel
theorem d_TB_command_33 : decode m_TB_command.2.1 33 = .ok (.istore_n 1, 1) := by decide +kernel
theorem d_TB_command_34 : decode m_TB_command.2.1 34 = .ok (.aload_n 0, 1) := by decide +kernel
theorem d_TB_command_35 : decode m_TB_command.2.1 35 = .ok (.invokevirtual 74, 3) := by decide +kernel
theorem d_TB_command_38 : decode m_TB_command.2.1 38 = .ok (.aload_n 0, 1) := by decide +kernel
theorem d_TB_command_39 : decode m_TB_command.2.1 39 = .ok (.getfield 10, 3) := by decide +kernel
theorem d_TB_command_42 : decode m_TB_command.2.1 42 = .ok (.invokevirtual 77, 3) := by decide +kernel
theorem d_TB_command_45 : decode m_TB_command.2.1 45 = .ok (.iload_n 1, 1) := by decide +kernel
theorem d_TB_command_46 : decode m_TB_command.2.1 46 = .ok (.ireturn, 1) := by decide +kernel
theorem d_TB_refuseNoCommand_0 : decode m_TB_refuseNoCommand.2.1 0 = .ok (.aload_n 0, 1) := by decide +kernel
theorem d_TB_refuseNoCommand_1 : decode m_TB_refuseNoCommand.2.1 1 = .ok (.getfield 10, 3) := by decide +kernel
theorem d_TB_refuseNoCommand_4 : decode m_TB_refuseNoCommand.2.1 4 = .ok (.invokevirtual 169, 3) := by decide +kernel
theorem d_TB_refuseNoCommand_7 : decode m_TB_refuseNoCommand.2.1 7 = .ok (.ifCond .ne 18, 3) := by decide +kernel
theorem d_TB_refuseNoCommand_10 : decode m_TB_refuseNoCommand.2.1 10 = .ok (.aload_n 0, 1) := by decide +kernel
theorem d_TB_refuseNoCommand_11 : decode m_TB_refuseNoCommand.2.1 11 = .ok (.getfield 10, 3) := by decide +kernel
theorem d_TB_refuseNoCommand_14 : decode m_TB_refuseNoCommand.2.1 14 = .ok (.invokevirtual 77, 3) := by decide +kernel
theorem d_TB_refuseNoCommand_17 : decode m_TB_refuseNoCommand.2.1 17 = .ok (.new 114, 3) := by decide +kernel
theorem d_TB_refuseNoCommand_20 : decode m_TB_refuseNoCommand.2.1 20 = .ok (.dup, 1) := by decide +kernel
theorem d_TB_refuseNoCommand_21 : decode m_TB_refuseNoCommand.2.1 21 = .ok (.invokespecial 116, 3) := by decide +kernel
theorem d_TB_refuseNoCommand_24 : decode m_TB_refuseNoCommand.2.1 24 = .ok (.athrow, 1) := by decide +kernel
theorem d_TB_refuseNoCommand_25 : decode m_TB_refuseNoCommand.2.1 25 = .ok (.return_, 1) := by decide +kernel
theorem d_TB_scriptChanged_0 : decode m_TB_scriptChanged.2.1 0 = .ok (.aload_n 0, 1) := by decide +kernel
theorem d_TB_scriptChanged_1 : decode m_TB_scriptChanged.2.1 1 = .ok (.iconst 0, 1) := by decide +kernel
theorem d_TB_scriptChanged_2 : decode m_TB_scriptChanged.2.1 2 = .ok (.putfield 49, 3) := by decide +kernel
theorem d_TB_scriptChanged_5 : decode m_TB_scriptChanged.2.1 5 = .ok (.return_, 1) := by decide +kernel
theorem d_TB_edit_0 : decode m_TB_edit.2.1 0 = .ok (.aload_n 0, 1) := by decide +kernel
theorem d_TB_edit_1 : decode m_TB_edit.2.1 1 = .ok (.iload_n 1, 1) := by decide +kernel
theorem d_TB_edit_2 : decode m_TB_edit.2.1 2 = .ok (.invokevirtual 80, 3) := by decide +kernel
theorem d_TB_edit_5 : decode m_TB_edit.2.1 5 = .ok (.aload_n 0, 1) := by decide +kernel
theorem d_TB_edit_6 : decode m_TB_edit.2.1 6 = .ok (.invokevirtual 61, 3) := by decide +kernel
theorem d_TB_edit_9 : decode m_TB_edit.2.1 9 = .ok (.aload_n 0, 1) := by decide +kernel
theorem d_TB_edit_10 : decode m_TB_edit.2.1 10 = .ok (.getfield 19, 3) := by decide +kernel
theorem d_TB_edit_13 : decode m_TB_edit.2.1 13 = .ok (.iload_n 1, 1) := by decide +kernel
theorem d_TB_edit_14 : decode m_TB_edit.2.1 14 = .ok (.invokevirtual 83, 3) := by decide +kernel
theorem d_TB_edit_17 : decode m_TB_edit.2.1 17 = .ok (.aload_n 0, 1) := by decide +kernel
theorem d_TB_edit_18 : decode m_TB_edit.2.1 18 = .ok (.getfield 10, 3) := by decide +kernel
theorem d_TB_edit_21 : decode m_TB_edit.2.1 21 = .ok (.invokevirtual 87, 3) := by decide +kernel
theorem d_TB_edit_24 : decode m_TB_edit.2.1 24 = .ok (.aload_n 0, 1) := by decide +kernel
theorem d_TB_edit_25 : decode m_TB_edit.2.1 25 = .ok (.invokevirtual 74, 3) := by decide +kernel
theorem d_TB_edit_28 : decode m_TB_edit.2.1 28 = .ok (.aload_n 0, 1) := by decide +kernel
theorem d_TB_edit_29 : decode m_TB_edit.2.1 29 = .ok (.getfield 10, 3) := by decide +kernel
theorem d_TB_edit_32 : decode m_TB_edit.2.1 32 = .ok (.invokevirtual 77, 3) := by decide +kernel
theorem d_TB_edit_35 : decode m_TB_edit.2.1 35 = .ok (.return_, 1) := by decide +kernel
theorem d_TB_refuseNoPlace_0 : decode m_TB_refuseNoPlace.2.1 0 = .ok (.aload_n 0, 1) := by decide +kernel
theorem d_TB_refuseNoPlace_1 : decode m_TB_refuseNoPlace.2.1 1 = .ok (.getfield 19, 3) := by decide +kernel
theorem d_TB_refuseNoPlace_4 : decode m_TB_refuseNoPlace.2.1 4 = .ok (.iload_n 1, 1) := by decide +kernel
theorem d_TB_refuseNoPlace_5 : decode m_TB_refuseNoPlace.2.1 5 = .ok (.invokevirtual 172, 3) := by decide +kernel
theorem d_TB_refuseNoPlace_8 : decode m_TB_refuseNoPlace.2.1 8 = .ok (.ifCond .ne 11, 3) := by decide +kernel
theorem d_TB_refuseNoPlace_11 : decode m_TB_refuseNoPlace.2.1 11 = .ok (.new 149, 3) := by decide +kernel
theorem d_TB_refuseNoPlace_14 : decode m_TB_refuseNoPlace.2.1 14 = .ok (.dup, 1) := by decide +kernel
theorem d_TB_refuseNoPlace_15 : decode m_TB_refuseNoPlace.2.1 15 = .ok (.invokespecial 151, 3) := by decide +kernel
theorem d_TB_refuseNoPlace_18 : decode m_TB_refuseNoPlace.2.1 18 = .ok (.athrow, 1) := by decide +kernel
theorem d_TB_refuseNoPlace_19 : decode m_TB_refuseNoPlace.2.1 19 = .ok (.return_, 1) := by decide +kernel
theorem d_TB_drop_0 : decode m_TB_drop.2.1 0 = .ok (.aload_n 0, 1) := by decide +kernel
theorem d_TB_drop_1 : decode m_TB_drop.2.1 1 = .ok (.iload_n 1, 1) := by decide +kernel
theorem d_TB_drop_2 : decode m_TB_drop.2.1 2 = .ok (.invokevirtual 80, 3) := by decide +kernel
theorem d_TB_drop_5 : decode m_TB_drop.2.1 5 = .ok (.aload_n 0, 1) := by decide +kernel
theorem d_TB_drop_6 : decode m_TB_drop.2.1 6 = .ok (.getfield 19, 3) := by decide +kernel
theorem d_TB_drop_9 : decode m_TB_drop.2.1 9 = .ok (.iload_n 1, 1) := by decide +kernel
theorem d_TB_drop_10 : decode m_TB_drop.2.1 10 = .ok (.invokevirtual 91, 3) := by decide +kernel
theorem d_TB_drop_13 : decode m_TB_drop.2.1 13 = .ok (.aload_n 0, 1) := by decide +kernel
theorem d_TB_drop_14 : decode m_TB_drop.2.1 14 = .ok (.invokevirtual 74, 3) := by decide +kernel
theorem d_TB_drop_17 : decode m_TB_drop.2.1 17 = .ok (.return_, 1) := by decide +kernel
theorem d_TB_run_0 : decode m_TB_run.2.1 0 = .ok (.iload_n 1, 1) := by decide +kernel
theorem d_TB_run_1 : decode m_TB_run.2.1 1 = .ok (.ifCond .lt 8, 3) := by decide +kernel
theorem d_TB_run_4 : decode m_TB_run.2.1 4 = .ok (.iload_n 1, 1) := by decide +kernel
theorem d_TB_run_5 : decode m_TB_run.2.1 5 = .ok (.iconst 4, 1) := by decide +kernel
theorem d_TB_run_6 : decode m_TB_run.2.1 6 = .ok (.if_icmp .le 11, 3) := by decide +kernel
theorem d_TB_run_9 : decode m_TB_run.2.1 9 = .ok (.new 114, 3) := by decide +kernel
theorem d_TB_run_12 : decode m_TB_run.2.1 12 = .ok (.dup, 1) := by decide +kernel
theorem d_TB_run_13 : decode m_TB_run.2.1 13 = .ok (.invokespecial 116, 3) := by decide +kernel
theorem d_TB_run_16 : decode m_TB_run.2.1 16 = .ok (.athrow, 1) := by decide +kernel
theorem d_TB_run_17 : decode m_TB_run.2.1 17 = .ok (.aload_n 0, 1) := by decide +kernel
theorem d_TB_run_18 : decode m_TB_run.2.1 18 = .ok (.getfield 19, 3) := by decide +kernel
theorem d_TB_run_21 : decode m_TB_run.2.1 21 = .ok (.invokevirtual 94, 3) := by decide +kernel
theorem d_TB_run_24 : decode m_TB_run.2.1 24 = .ok (.ifCond .ne 11, 3) := by decide +kernel
theorem d_TB_run_27 : decode m_TB_run.2.1 27 = .ok (.new 68, 3) := by decide +kernel
theorem d_TB_run_30 : decode m_TB_run.2.1 30 = .ok (.dup, 1) := by decide +kernel
theorem d_TB_run_31 : decode m_TB_run.2.1 31 = .ok (.invokespecial 70, 3) := by decide +kernel
theorem d_TB_run_34 : decode m_TB_run.2.1 34 = .ok (.athrow, 1) := by decide +kernel
theorem d_TB_run_35 : decode m_TB_run.2.1 35 = .ok (.aload_n 0, 1) := by decide +kernel
theorem d_TB_run_36 : decode m_TB_run.2.1 36 = .ok (.getfield 32, 3) := by decide +kernel
theorem d_TB_run_39 : decode m_TB_run.2.1 39 = .ok (.aload_n 0, 1) := by decide +kernel
theorem d_TB_run_40 : decode m_TB_run.2.1 40 = .ok (.getfield 28, 3) := by decide +kernel
theorem d_TB_run_43 : decode m_TB_run.2.1 43 = .ok (.invokevirtual 117, 3) := by decide +kernel
theorem d_TB_run_46 : decode m_TB_run.2.1 46 = .ok (.aload_n 0, 1) := by decide +kernel
theorem d_TB_run_47 : decode m_TB_run.2.1 47 = .ok (.iconst 1, 1) := by decide +kernel
theorem d_TB_run_48 : decode m_TB_run.2.1 48 = .ok (.putfield 49, 3) := by decide +kernel
theorem d_TB_run_51 : decode m_TB_run.2.1 51 = .ok (.aload_n 0, 1) := by decide +kernel
theorem d_TB_run_52 : decode m_TB_run.2.1 52 = .ok (.iload_n 1, 1) := by decide +kernel
theorem d_TB_run_53 : decode m_TB_run.2.1 53 = .ok (.invokevirtual 121, 3) := by decide +kernel
theorem d_TB_run_56 : decode m_TB_run.2.1 56 = .ok (.aload_n 0, 1) := by decide +kernel
theorem d_TB_run_57 : decode m_TB_run.2.1 57 = .ok (.getfield 45, 3) := by decide +kernel
theorem d_TB_run_60 : decode m_TB_run.2.1 60 = .ok (.invokevirtual 124, 3) := by decide +kernel
theorem d_TB_run_63 : decode m_TB_run.2.1 63 = .ok (.ifCond .eq 29, 3) := by decide +kernel
theorem d_TB_run_66 : decode m_TB_run.2.1 66 = .ok (.aload_n 0, 1) := by decide +kernel
theorem d_TB_run_67 : decode m_TB_run.2.1 67 = .ok (.getfield 28, 3) := by decide +kernel
theorem d_TB_run_70 : decode m_TB_run.2.1 70 = .ok (.aload_n 0, 1) := by decide +kernel
theorem d_TB_run_71 : decode m_TB_run.2.1 71 = .ok (.getfield 32, 3) := by decide +kernel
theorem d_TB_run_74 : decode m_TB_run.2.1 74 = .ok (.invokevirtual 117, 3) := by decide +kernel
theorem d_TB_run_77 : decode m_TB_run.2.1 77 = .ok (.aload_n 0, 1) := by decide +kernel
theorem d_TB_run_78 : decode m_TB_run.2.1 78 = .ok (.dup, 1) := by decide +kernel
theorem d_TB_run_79 : decode m_TB_run.2.1 79 = .ok (.getfield 53, 3) := by decide +kernel
theorem d_TB_run_82 : decode m_TB_run.2.1 82 = .ok (.iconst 1, 1) := by decide +kernel
theorem d_TB_run_83 : decode m_TB_run.2.1 83 = .ok (.iadd, 1) := by decide +kernel
theorem d_TB_run_84 : decode m_TB_run.2.1 84 = .ok (.putfield 53, 3) := by decide +kernel
theorem d_TB_run_87 : decode m_TB_run.2.1 87 = .ok (.aload_n 0, 1) := by decide +kernel
theorem d_TB_run_88 : decode m_TB_run.2.1 88 = .ok (.iconst 0, 1) := by decide +kernel
theorem d_TB_run_89 : decode m_TB_run.2.1 89 = .ok (.invokevirtual 121, 3) := by decide +kernel
theorem d_TB_run_92 : decode m_TB_run.2.1 92 = .ok (.aload_n 0, 1) := by decide +kernel
theorem d_TB_run_93 : decode m_TB_run.2.1 93 = .ok (.getfield 45, 3) := by decide +kernel
theorem d_TB_run_96 : decode m_TB_run.2.1 96 = .ok (.invokevirtual 127, 3) := by decide +kernel
theorem d_TB_run_99 : decode m_TB_run.2.1 99 = .ok (.ifCond .eq 7, 3) := by decide +kernel
theorem d_TB_run_102 : decode m_TB_run.2.1 102 = .ok (.iconst 1, 1) := by decide +kernel
theorem d_TB_run_103 : decode m_TB_run.2.1 103 = .ok (.goto 4, 3) := by decide +kernel
theorem d_TB_run_106 : decode m_TB_run.2.1 106 = .ok (.iconst 0, 1) := by decide +kernel
theorem d_TB_run_107 : decode m_TB_run.2.1 107 = .ok (.ireturn, 1) := by decide +kernel
theorem d_TB_goThrough_0 : decode m_TB_goThrough.2.1 0 = .ok (.aload_n 0, 1) := by decide +kernel
theorem d_TB_goThrough_1 : decode m_TB_goThrough.2.1 1 = .ok (.getfield 19, 3) := by decide +kernel
theorem d_TB_goThrough_4 : decode m_TB_goThrough.2.1 4 = .ok (.invokevirtual 94, 3) := by decide +kernel
theorem d_TB_goThrough_7 : decode m_TB_goThrough.2.1 7 = .ok (.istore_n 2, 1) := by decide +kernel
theorem d_TB_goThrough_8 : decode m_TB_goThrough.2.1 8 = .ok (.aload_n 0, 1) := by decide +kernel
theorem d_TB_goThrough_9 : decode m_TB_goThrough.2.1 9 = .ok (.getfield 45, 3) := by decide +kernel
theorem d_TB_goThrough_12 : decode m_TB_goThrough.2.1 12 = .ok (.iload_n 2, 1) := by decide +kernel
theorem d_TB_goThrough_13 : decode m_TB_goThrough.2.1 13 = .ok (.invokevirtual 175, 3) := by decide +kernel
theorem d_TB_goThrough_16 : decode m_TB_goThrough.2.1 16 = .ok (.iconst 0, 1) := by decide +kernel
theorem d_TB_goThrough_17 : decode m_TB_goThrough.2.1 17 = .ok (.istore_n 3, 1) := by decide +kernel
theorem d_TB_goThrough_18 : decode m_TB_goThrough.2.1 18 = .ok (.iload_n 3, 1) := by decide +kernel
theorem d_TB_goThrough_19 : decode m_TB_goThrough.2.1 19 = .ok (.iload_n 2, 1) := by decide +kernel
theorem d_TB_goThrough_20 : decode m_TB_goThrough.2.1 20 = .ok (.if_icmp .ge 87, 3) := by decide +kernel
theorem d_TB_goThrough_23 : decode m_TB_goThrough.2.1 23 = .ok (.aload_n 0, 1) := by decide +kernel
theorem d_TB_goThrough_24 : decode m_TB_goThrough.2.1 24 = .ok (.getfield 45, 3) := by decide +kernel
theorem d_TB_goThrough_27 : decode m_TB_goThrough.2.1 27 = .ok (.invokevirtual 127, 3) := by decide +kernel
theorem d_TB_goThrough_30 : decode m_TB_goThrough.2.1 30 = .ok (.ifCond .ne 77, 3) := by decide +kernel
theorem d_TB_goThrough_33 : decode m_TB_goThrough.2.1 33 = .ok (.aload_n 0, 1) := by decide +kernel
theorem d_TB_goThrough_34 : decode m_TB_goThrough.2.1 34 = .ok (.getfield 45, 3) := by decide +kernel
theorem d_TB_goThrough_37 : decode m_TB_goThrough.2.1 37 = .ok (.iload_n 3, 1) := by decide +kernel
theorem d_TB_goThrough_38 : decode m_TB_goThrough.2.1 38 = .ok (.invokevirtual 133, 3) := by decide +kernel
theorem d_TB_goThrough_41 : decode m_TB_goThrough.2.1 41 = .ok (.invokevirtual 178, 3) := by decide +kernel
theorem d_TB_goThrough_44 : decode m_TB_goThrough.2.1 44 = .ok (.ifCond .ne 9, 3) := by decide +kernel
theorem d_TB_goThrough_47 : decode m_TB_goThrough.2.1 47 = .ok (.aload_n 0, 1) := by decide +kernel
theorem d_TB_goThrough_48 : decode m_TB_goThrough.2.1 48 = .ok (.iload_n 3, 1) := by decide +kernel
theorem d_TB_goThrough_49 : decode m_TB_goThrough.2.1 49 = .ok (.iconst 0, 1) := by decide +kernel
theorem d_TB_goThrough_50 : decode m_TB_goThrough.2.1 50 = .ok (.invokevirtual 181, 3) := by decide +kernel
theorem d_TB_goThrough_53 : decode m_TB_goThrough.2.1 53 = .ok (.iconst 0, 1) := by decide +kernel
theorem d_TB_goThrough_54 : decode m_TB_goThrough.2.1 54 = .ok (.istore 4, 2) := by decide +kernel
theorem d_TB_goThrough_56 : decode m_TB_goThrough.2.1 56 = .ok (.iload 4, 2) := by decide +kernel
theorem d_TB_goThrough_58 : decode m_TB_goThrough.2.1 58 = .ok (.iload_n 1, 1) := by decide +kernel
theorem d_TB_goThrough_59 : decode m_TB_goThrough.2.1 59 = .ok (.if_icmp .ge 42, 3) := by decide +kernel
theorem d_TB_goThrough_62 : decode m_TB_goThrough.2.1 62 = .ok (.aload_n 0, 1) := by decide +kernel
theorem d_TB_goThrough_63 : decode m_TB_goThrough.2.1 63 = .ok (.getfield 45, 3) := by decide +kernel
theorem d_TB_goThrough_66 : decode m_TB_goThrough.2.1 66 = .ok (.invokevirtual 127, 3) := by decide +kernel
theorem d_TB_goThrough_69 : decode m_TB_goThrough.2.1 69 = .ok (.ifCond .ne 32, 3) := by decide +kernel
theorem d_TB_goThrough_72 : decode m_TB_goThrough.2.1 72 = .ok (.aload_n 0, 1) := by decide +kernel
theorem d_TB_goThrough_73 : decode m_TB_goThrough.2.1 73 = .ok (.iload_n 3, 1) := by decide +kernel
theorem d_TB_goThrough_74 : decode m_TB_goThrough.2.1 74 = .ok (.invokevirtual 185, 3) := by decide +kernel
theorem d_TB_goThrough_77 : decode m_TB_goThrough.2.1 77 = .ok (.istore 5, 2) := by decide +kernel
theorem d_TB_goThrough_79 : decode m_TB_goThrough.2.1 79 = .ok (.iload 5, 2) := by decide +kernel
theorem d_TB_goThrough_81 : decode m_TB_goThrough.2.1 81 = .ok (.iconst (-1), 1) := by decide +kernel
theorem d_TB_goThrough_82 : decode m_TB_goThrough.2.1 82 = .ok (.if_icmp .ne 6, 3) := by decide +kernel
theorem d_TB_goThrough_85 : decode m_TB_goThrough.2.1 85 = .ok (.goto 16, 3) := by decide +kernel
theorem d_TB_goThrough_88 : decode m_TB_goThrough.2.1 88 = .ok (.aload_n 0, 1) := by decide +kernel
theorem d_TB_goThrough_89 : decode m_TB_goThrough.2.1 89 = .ok (.iload 5, 2) := by decide +kernel
theorem d_TB_goThrough_91 : decode m_TB_goThrough.2.1 91 = .ok (.iconst 1, 1) := by decide +kernel
theorem d_TB_goThrough_92 : decode m_TB_goThrough.2.1 92 = .ok (.invokevirtual 181, 3) := by decide +kernel
theorem d_TB_goThrough_95 : decode m_TB_goThrough.2.1 95 = .ok (.iinc 4 1, 3) := by decide +kernel
theorem d_TB_goThrough_98 : decode m_TB_goThrough.2.1 98 = .ok (.goto (-42), 3) := by decide +kernel
theorem d_TB_goThrough_101 : decode m_TB_goThrough.2.1 101 = .ok (.iinc 3 1, 3) := by decide +kernel
theorem d_TB_goThrough_104 : decode m_TB_goThrough.2.1 104 = .ok (.goto (-86), 3) := by decide +kernel
theorem d_TB_goThrough_107 : decode m_TB_goThrough.2.1 107 = .ok (.return_, 1) := by decide +kernel
theorem d_TB_perform_0 : decode m_TB_perform.2.1 0 = .ok (.aload_n 0, 1) := by decide +kernel
theorem d_TB_perform_1 : decode m_TB_perform.2.1 1 = .ok (.getfield 19, 3) := by decide +kernel
theorem d_TB_perform_4 : decode m_TB_perform.2.1 4 = .ok (.iload_n 1, 1) := by decide +kernel
theorem d_TB_perform_5 : decode m_TB_perform.2.1 5 = .ok (.invokevirtual 83, 3) := by decide +kernel
theorem d_TB_perform_8 : decode m_TB_perform.2.1 8 = .ok (.astore_n 3, 1) := by decide +kernel
theorem d_TB_perform_9 : decode m_TB_perform.2.1 9 = .ok (.aload_n 0, 1) := by decide +kernel
theorem d_TB_perform_10 : decode m_TB_perform.2.1 10 = .ok (.getfield 28, 3) := by decide +kernel
theorem d_TB_perform_13 : decode m_TB_perform.2.1 13 = .ok (.invokevirtual 200, 3) := by decide +kernel
theorem d_TB_perform_16 : decode m_TB_perform.2.1 16 = .ok (.istore 4, 2) := by decide +kernel
theorem d_TB_perform_18 : decode m_TB_perform.2.1 18 = .ok (.iconst 1, 1) := by decide +kernel
theorem d_TB_perform_19 : decode m_TB_perform.2.1 19 = .ok (.istore 5, 2) := by decide +kernel
theorem d_TB_perform_21 : decode m_TB_perform.2.1 21 = .ok (.iconst (-1), 1) := by decide +kernel
theorem d_TB_perform_22 : decode m_TB_perform.2.1 22 = .ok (.istore 6, 2) := by decide +kernel
theorem d_TB_perform_24 : decode m_TB_perform.2.1 24 = .ok (.aload_n 0, 1) := by decide +kernel
theorem d_TB_perform_25 : decode m_TB_perform.2.1 25 = .ok (.getfield 38, 3) := by decide +kernel
theorem d_TB_perform_28 : decode m_TB_perform.2.1 28 = .ok (.aload_n 3, 1) := by decide +kernel
theorem d_TB_perform_29 : decode m_TB_perform.2.1 29 = .ok (.aload_n 0, 1) := by decide +kernel
theorem d_TB_perform_30 : decode m_TB_perform.2.1 30 = .ok (.getfield 28, 3) := by decide +kernel
theorem d_TB_perform_33 : decode m_TB_perform.2.1 33 = .ok (.invokevirtual 203, 3) := by decide +kernel
theorem d_TB_perform_36 : decode m_TB_perform.2.1 36 = .ok (.astore 7, 2) := by decide +kernel
theorem d_TB_perform_38 : decode m_TB_perform.2.1 38 = .ok (.aload 7, 2) := by decide +kernel
theorem d_TB_perform_40 : decode m_TB_perform.2.1 40 = .ok (.ifnonnull 49, 3) := by decide +kernel
theorem d_TB_perform_43 : decode m_TB_perform.2.1 43 = .ok (.aload_n 0, 1) := by decide +kernel
theorem d_TB_perform_44 : decode m_TB_perform.2.1 44 = .ok (.getfield 38, 3) := by decide +kernel
theorem d_TB_perform_47 : decode m_TB_perform.2.1 47 = .ok (.aload_n 3, 1) := by decide +kernel
theorem d_TB_perform_48 : decode m_TB_perform.2.1 48 = .ok (.aload_n 0, 1) := by decide +kernel
theorem d_TB_perform_49 : decode m_TB_perform.2.1 49 = .ok (.getfield 28, 3) := by decide +kernel
theorem d_TB_perform_52 : decode m_TB_perform.2.1 52 = .ok (.invokevirtual 207, 3) := by decide +kernel
theorem d_TB_perform_55 : decode m_TB_perform.2.1 55 = .ok (.istore 6, 2) := by decide +kernel
theorem d_TB_perform_57 : decode m_TB_perform.2.1 57 = .ok (.aload_n 0, 1) := by decide +kernel
theorem d_TB_perform_58 : decode m_TB_perform.2.1 58 = .ok (.getfield 38, 3) := by decide +kernel
theorem d_TB_perform_61 : decode m_TB_perform.2.1 61 = .ok (.invokevirtual 211, 3) := by decide +kernel
theorem d_TB_perform_64 : decode m_TB_perform.2.1 64 = .ok (.astore 7, 2) := by decide +kernel
theorem d_TB_perform_66 : decode m_TB_perform.2.1 66 = .ok (.aload 7, 2) := by decide +kernel
theorem d_TB_perform_68 : decode m_TB_perform.2.1 68 = .ok (.aload_n 3, 1) := by decide +kernel
theorem d_TB_perform_69 : decode m_TB_perform.2.1 69 = .ok (.aload_n 0, 1) := by decide +kernel
theorem d_TB_perform_70 : decode m_TB_perform.2.1 70 = .ok (.getfield 28, 3) := by decide +kernel
theorem d_TB_perform_73 : decode m_TB_perform.2.1 73 = .ok (.invokestatic 214, 3) := by decide +kernel
theorem d_TB_perform_76 : decode m_TB_perform.2.1 76 = .ok (.aload 7, 2) := by decide +kernel
theorem d_TB_perform_78 : decode m_TB_perform.2.1 78 = .ok (.aload_n 0, 1) := by decide +kernel
theorem d_TB_perform_79 : decode m_TB_perform.2.1 79 = .ok (.getfield 28, 3) := by decide +kernel
theorem d_TB_perform_82 : decode m_TB_perform.2.1 82 = .ok (.invokevirtual 220, 3) := by decide +kernel
theorem d_TB_perform_85 : decode m_TB_perform.2.1 85 = .ok (.pop, 1) := by decide +kernel
theorem d_TB_perform_86 : decode m_TB_perform.2.1 86 = .ok (.goto 22, 3) := by decide +kernel
theorem d_TB_perform_89 : decode m_TB_perform.2.1 89 = .ok (.aload 7, 2) := by decide +kernel
theorem d_TB_perform_91 : decode m_TB_perform.2.1 91 = .ok (.aload_n 0, 1) := by decide +kernel
theorem d_TB_perform_92 : decode m_TB_perform.2.1 92 = .ok (.getfield 28, 3) := by decide +kernel
theorem d_TB_perform_95 : decode m_TB_perform.2.1 95 = .ok (.invokevirtual 220, 3) := by decide +kernel
theorem d_TB_perform_98 : decode m_TB_perform.2.1 98 = .ok (.ifCond .eq 7, 3) := by decide +kernel
theorem d_TB_perform_101 : decode m_TB_perform.2.1 101 = .ok (.iconst 3, 1) := by decide +kernel
theorem d_TB_perform_102 : decode m_TB_perform.2.1 102 = .ok (.goto 4, 3) := by decide +kernel
theorem d_TB_perform_105 : decode m_TB_perform.2.1 105 = .ok (.iconst 2, 1) := by decide +kernel
theorem d_TB_perform_106 : decode m_TB_perform.2.1 106 = .ok (.istore 5, 2) := by decide +kernel
theorem d_TB_perform_108 : decode m_TB_perform.2.1 108 = .ok (.aload_n 0, 1) := by decide +kernel
theorem d_TB_perform_109 : decode m_TB_perform.2.1 109 = .ok (.getfield 45, 3) := by decide +kernel
theorem d_TB_perform_112 : decode m_TB_perform.2.1 112 = .ok (.iload_n 1, 1) := by decide +kernel
theorem d_TB_perform_113 : decode m_TB_perform.2.1 113 = .ok (.invokevirtual 133, 3) := by decide +kernel
theorem d_TB_perform_116 : decode m_TB_perform.2.1 116 = .ok (.astore 8, 2) := by decide +kernel
theorem d_TB_perform_118 : decode m_TB_perform.2.1 118 = .ok (.aload 8, 2) := by decide +kernel
theorem d_TB_perform_120 : decode m_TB_perform.2.1 120 = .ok (.iload 5, 2) := by decide +kernel
theorem d_TB_perform_122 : decode m_TB_perform.2.1 122 = .ok (.iload_n 2, 1) := by decide +kernel
theorem d_TB_perform_123 : decode m_TB_perform.2.1 123 = .ok (.iload 6, 2) := by decide +kernel
theorem d_TB_perform_125 : decode m_TB_perform.2.1 125 = .ok (.invokevirtual 224, 3) := by decide +kernel
theorem d_TB_perform_128 : decode m_TB_perform.2.1 128 = .ok (.aload 8, 2) := by decide +kernel
theorem d_TB_perform_130 : decode m_TB_perform.2.1 130 = .ok (.aload 7, 2) := by decide +kernel
theorem d_TB_perform_132 : decode m_TB_perform.2.1 132 = .ok (.iload 4, 2) := by decide +kernel
theorem d_TB_perform_134 : decode m_TB_perform.2.1 134 = .ok (.aload_n 0, 1) := by decide +kernel
theorem d_TB_perform_135 : decode m_TB_perform.2.1 135 = .ok (.getfield 28, 3) := by decide +kernel
theorem d_TB_perform_138 : decode m_TB_perform.2.1 138 = .ok (.invokevirtual 200, 3) := by decide +kernel
theorem d_TB_perform_141 : decode m_TB_perform.2.1 141 = .ok (.ixor, 1) := by decide +kernel
theorem d_TB_perform_142 : decode m_TB_perform.2.1 142 = .ok (.invokevirtual 228, 3) := by decide +kernel
theorem d_TB_perform_145 : decode m_TB_perform.2.1 145 = .ok (.aload_n 0, 1) := by decide +kernel
theorem d_TB_perform_146 : decode m_TB_perform.2.1 146 = .ok (.getfield 45, 3) := by decide +kernel
theorem d_TB_perform_149 : decode m_TB_perform.2.1 149 = .ok (.iload_n 1, 1) := by decide +kernel
theorem d_TB_perform_150 : decode m_TB_perform.2.1 150 = .ok (.invokevirtual 232, 3) := by decide +kernel
theorem d_TB_perform_153 : decode m_TB_perform.2.1 153 = .ok (.return_, 1) := by decide +kernel
theorem d_TB_firstOf_0 : decode m_TB_firstOf.2.1 0 = .ok (.iconst 0, 1) := by decide +kernel
theorem d_TB_firstOf_1 : decode m_TB_firstOf.2.1 1 = .ok (.istore_n 1, 1) := by decide +kernel
theorem d_TB_firstOf_2 : decode m_TB_firstOf.2.1 2 = .ok (.iload_n 1, 1) := by decide +kernel
theorem d_TB_firstOf_3 : decode m_TB_firstOf.2.1 3 = .ok (.bipush 12, 2) := by decide +kernel
theorem d_TB_firstOf_5 : decode m_TB_firstOf.2.1 5 = .ok (.if_icmp .ge 19, 3) := by decide +kernel
theorem d_TB_firstOf_8 : decode m_TB_firstOf.2.1 8 = .ok (.iload_n 0, 1) := by decide +kernel
theorem d_TB_firstOf_9 : decode m_TB_firstOf.2.1 9 = .ok (.iconst 1, 1) := by decide +kernel
theorem d_TB_firstOf_10 : decode m_TB_firstOf.2.1 10 = .ok (.iload_n 1, 1) := by decide +kernel
theorem d_TB_firstOf_11 : decode m_TB_firstOf.2.1 11 = .ok (.ishl, 1) := by decide +kernel
theorem d_TB_firstOf_12 : decode m_TB_firstOf.2.1 12 = .ok (.iand, 1) := by decide +kernel
theorem d_TB_firstOf_13 : decode m_TB_firstOf.2.1 13 = .ok (.ifCond .eq 5, 3) := by decide +kernel
theorem d_TB_firstOf_16 : decode m_TB_firstOf.2.1 16 = .ok (.iload_n 1, 1) := by decide +kernel
theorem d_TB_firstOf_17 : decode m_TB_firstOf.2.1 17 = .ok (.ireturn, 1) := by decide +kernel
theorem d_TB_firstOf_18 : decode m_TB_firstOf.2.1 18 = .ok (.iinc 1 1, 3) := by decide +kernel
theorem d_TB_firstOf_21 : decode m_TB_firstOf.2.1 21 = .ok (.goto (-19), 3) := by decide +kernel
theorem d_TB_firstOf_24 : decode m_TB_firstOf.2.1 24 = .ok (.iconst (-1), 1) := by decide +kernel
theorem d_TB_firstOf_25 : decode m_TB_firstOf.2.1 25 = .ok (.ireturn, 1) := by decide +kernel
theorem d_TB_firstToGoAhead_0 : decode m_TB_firstToGoAhead.2.1 0 = .ok (.iload_n 1, 1) := by decide +kernel
theorem d_TB_firstToGoAhead_1 : decode m_TB_firstToGoAhead.2.1 1 = .ok (.iconst 2, 1) := by decide +kernel
theorem d_TB_firstToGoAhead_2 : decode m_TB_firstToGoAhead.2.1 2 = .ok (.iadd, 1) := by decide +kernel
theorem d_TB_firstToGoAhead_3 : decode m_TB_firstToGoAhead.2.1 3 = .ok (.istore_n 2, 1) := by decide +kernel
theorem d_TB_firstToGoAhead_4 : decode m_TB_firstToGoAhead.2.1 4 = .ok (.iload_n 2, 1) := by decide +kernel
theorem d_TB_firstToGoAhead_5 : decode m_TB_firstToGoAhead.2.1 5 = .ok (.aload_n 0, 1) := by decide +kernel
theorem d_TB_firstToGoAhead_6 : decode m_TB_firstToGoAhead.2.1 6 = .ok (.getfield 19, 3) := by decide +kernel
theorem d_TB_firstToGoAhead_9 : decode m_TB_firstToGoAhead.2.1 9 = .ok (.invokevirtual 94, 3) := by decide +kernel
theorem d_TB_firstToGoAhead_12 : decode m_TB_firstToGoAhead.2.1 12 = .ok (.if_icmp .ge 34, 3) := by decide +kernel
theorem d_TB_firstToGoAhead_15 : decode m_TB_firstToGoAhead.2.1 15 = .ok (.aload_n 0, 1) := by decide +kernel
theorem d_TB_firstToGoAhead_16 : decode m_TB_firstToGoAhead.2.1 16 = .ok (.getfield 45, 3) := by decide +kernel
theorem d_TB_firstToGoAhead_19 : decode m_TB_firstToGoAhead.2.1 19 = .ok (.iload_n 2, 1) := by decide +kernel
theorem d_TB_firstToGoAhead_20 : decode m_TB_firstToGoAhead.2.1 20 = .ok (.invokevirtual 133, 3) := by decide +kernel
theorem d_TB_firstToGoAhead_23 : decode m_TB_firstToGoAhead.2.1 23 = .ok (.invokevirtual 178, 3) := by decide +kernel
theorem d_TB_firstToGoAhead_26 : decode m_TB_firstToGoAhead.2.1 26 = .ok (.ifCond .ne 14, 3) := by decide +kernel
theorem d_TB_firstToGoAhead_29 : decode m_TB_firstToGoAhead.2.1 29 = .ok (.aload_n 0, 1) := by decide +kernel
theorem d_TB_firstToGoAhead_30 : decode m_TB_firstToGoAhead.2.1 30 = .ok (.iload_n 1, 1) := by decide +kernel
theorem d_TB_firstToGoAhead_31 : decode m_TB_firstToGoAhead.2.1 31 = .ok (.iload_n 2, 1) := by decide +kernel
theorem d_TB_firstToGoAhead_32 : decode m_TB_firstToGoAhead.2.1 32 = .ok (.invokevirtual 188, 3) := by decide +kernel
theorem d_TB_firstToGoAhead_35 : decode m_TB_firstToGoAhead.2.1 35 = .ok (.ifCond .eq 5, 3) := by decide +kernel
theorem d_TB_firstToGoAhead_38 : decode m_TB_firstToGoAhead.2.1 38 = .ok (.iload_n 2, 1) := by decide +kernel
theorem d_TB_firstToGoAhead_39 : decode m_TB_firstToGoAhead.2.1 39 = .ok (.ireturn, 1) := by decide +kernel
theorem d_TB_firstToGoAhead_40 : decode m_TB_firstToGoAhead.2.1 40 = .ok (.iinc 2 1, 3) := by decide +kernel
theorem d_TB_firstToGoAhead_43 : decode m_TB_firstToGoAhead.2.1 43 = .ok (.goto (-39), 3) := by decide +kernel
theorem d_TB_firstToGoAhead_46 : decode m_TB_firstToGoAhead.2.1 46 = .ok (.iconst (-1), 1) := by decide +kernel
theorem d_TB_firstToGoAhead_47 : decode m_TB_firstToGoAhead.2.1 47 = .ok (.ireturn, 1) := by decide +kernel
theorem d_TB_seemsSafeAhead_0 : decode m_TB_seemsSafeAhead.2.1 0 = .ok (.aload_n 0, 1) := by decide +kernel
theorem d_TB_seemsSafeAhead_1 : decode m_TB_seemsSafeAhead.2.1 1 = .ok (.getfield 38, 3) := by decide +kernel
theorem d_TB_seemsSafeAhead_4 : decode m_TB_seemsSafeAhead.2.1 4 = .ok (.aload_n 0, 1) := by decide +kernel
theorem d_TB_seemsSafeAhead_5 : decode m_TB_seemsSafeAhead.2.1 5 = .ok (.getfield 19, 3) := by decide +kernel
theorem d_TB_seemsSafeAhead_8 : decode m_TB_seemsSafeAhead.2.1 8 = .ok (.iload_n 2, 1) := by decide +kernel
theorem d_TB_seemsSafeAhead_9 : decode m_TB_seemsSafeAhead.2.1 9 = .ok (.invokevirtual 83, 3) := by decide +kernel
theorem d_TB_seemsSafeAhead_12 : decode m_TB_seemsSafeAhead.2.1 12 = .ok (.invokevirtual 192, 3) := by decide +kernel
theorem d_TB_seemsSafeAhead_15 : decode m_TB_seemsSafeAhead.2.1 15 = .ok (.astore_n 3, 1) := by decide +kernel
theorem d_TB_seemsSafeAhead_16 : decode m_TB_seemsSafeAhead.2.1 16 = .ok (.aload_n 3, 1) := by decide +kernel
theorem d_TB_seemsSafeAhead_17 : decode m_TB_seemsSafeAhead.2.1 17 = .ok (.ifnonnull 5, 3) := by decide +kernel
theorem d_TB_seemsSafeAhead_20 : decode m_TB_seemsSafeAhead.2.1 20 = .ok (.iconst 0, 1) := by decide +kernel
theorem d_TB_seemsSafeAhead_21 : decode m_TB_seemsSafeAhead.2.1 21 = .ok (.ireturn, 1) := by decide +kernel
theorem d_TB_seemsSafeAhead_22 : decode m_TB_seemsSafeAhead.2.1 22 = .ok (.iload_n 1, 1) := by decide +kernel
theorem d_TB_seemsSafeAhead_23 : decode m_TB_seemsSafeAhead.2.1 23 = .ok (.iconst 1, 1) := by decide +kernel
theorem d_TB_seemsSafeAhead_24 : decode m_TB_seemsSafeAhead.2.1 24 = .ok (.iadd, 1) := by decide +kernel
theorem d_TB_seemsSafeAhead_25 : decode m_TB_seemsSafeAhead.2.1 25 = .ok (.istore 4, 2) := by decide +kernel
theorem d_TB_seemsSafeAhead_27 : decode m_TB_seemsSafeAhead.2.1 27 = .ok (.iload 4, 2) := by decide +kernel
theorem d_TB_seemsSafeAhead_29 : decode m_TB_seemsSafeAhead.2.1 29 = .ok (.iload_n 2, 1) := by decide +kernel
theorem d_TB_seemsSafeAhead_30 : decode m_TB_seemsSafeAhead.2.1 30 = .ok (.if_icmp .ge 58, 3) := by decide +kernel
theorem d_TB_seemsSafeAhead_33 : decode m_TB_seemsSafeAhead.2.1 33 = .ok (.aload_n 0, 1) := by decide +kernel
theorem d_TB_seemsSafeAhead_34 : decode m_TB_seemsSafeAhead.2.1 34 = .ok (.getfield 45, 3) := by decide +kernel
theorem d_TB_seemsSafeAhead_37 : decode m_TB_seemsSafeAhead.2.1 37 = .ok (.iload 4, 2) := by decide +kernel
theorem d_TB_seemsSafeAhead_39 : decode m_TB_seemsSafeAhead.2.1 39 = .ok (.invokevirtual 133, 3) := by decide +kernel
theorem d_TB_seemsSafeAhead_42 : decode m_TB_seemsSafeAhead.2.1 42 = .ok (.invokevirtual 178, 3) := by decide +kernel
theorem d_TB_seemsSafeAhead_45 : decode m_TB_seemsSafeAhead.2.1 45 = .ok (.ifCond .ne 37, 3) := by decide +kernel
theorem d_TB_seemsSafeAhead_48 : decode m_TB_seemsSafeAhead.2.1 48 = .ok (.aload_n 0, 1) := by decide +kernel
theorem d_TB_seemsSafeAhead_49 : decode m_TB_seemsSafeAhead.2.1 49 = .ok (.getfield 38, 3) := by decide +kernel
theorem d_TB_seemsSafeAhead_52 : decode m_TB_seemsSafeAhead.2.1 52 = .ok (.aload_n 0, 1) := by decide +kernel
theorem d_TB_seemsSafeAhead_53 : decode m_TB_seemsSafeAhead.2.1 53 = .ok (.getfield 19, 3) := by decide +kernel
theorem d_TB_seemsSafeAhead_56 : decode m_TB_seemsSafeAhead.2.1 56 = .ok (.iload 4, 2) := by decide +kernel
theorem d_TB_seemsSafeAhead_58 : decode m_TB_seemsSafeAhead.2.1 58 = .ok (.invokevirtual 83, 3) := by decide +kernel
theorem d_TB_seemsSafeAhead_61 : decode m_TB_seemsSafeAhead.2.1 61 = .ok (.invokevirtual 192, 3) := by decide +kernel
theorem d_TB_seemsSafeAhead_64 : decode m_TB_seemsSafeAhead.2.1 64 = .ok (.astore 5, 2) := by decide +kernel
theorem d_TB_seemsSafeAhead_66 : decode m_TB_seemsSafeAhead.2.1 66 = .ok (.aload 5, 2) := by decide +kernel
theorem d_TB_seemsSafeAhead_68 : decode m_TB_seemsSafeAhead.2.1 68 = .ok (.ifnull 12, 3) := by decide +kernel
theorem d_TB_seemsSafeAhead_71 : decode m_TB_seemsSafeAhead.2.1 71 = .ok (.aload 5, 2) := by decide +kernel
theorem d_TB_seemsSafeAhead_73 : decode m_TB_seemsSafeAhead.2.1 73 = .ok (.aload_n 3, 1) := by decide +kernel
theorem d_TB_seemsSafeAhead_74 : decode m_TB_seemsSafeAhead.2.1 74 = .ok (.invokevirtual 196, 3) := by decide +kernel
theorem d_TB_seemsSafeAhead_77 : decode m_TB_seemsSafeAhead.2.1 77 = .ok (.ifCond .eq 5, 3) := by decide +kernel
theorem d_TB_seemsSafeAhead_80 : decode m_TB_seemsSafeAhead.2.1 80 = .ok (.iconst 0, 1) := by decide +kernel
theorem d_TB_seemsSafeAhead_81 : decode m_TB_seemsSafeAhead.2.1 81 = .ok (.ireturn, 1) := by decide +kernel
theorem d_TB_seemsSafeAhead_82 : decode m_TB_seemsSafeAhead.2.1 82 = .ok (.iinc 4 1, 3) := by decide +kernel
theorem d_TB_seemsSafeAhead_85 : decode m_TB_seemsSafeAhead.2.1 85 = .ok (.goto (-58), 3) := by decide +kernel
theorem d_TB_seemsSafeAhead_88 : decode m_TB_seemsSafeAhead.2.1 88 = .ok (.iconst 1, 1) := by decide +kernel
theorem d_TB_seemsSafeAhead_89 : decode m_TB_seemsSafeAhead.2.1 89 = .ok (.ireturn, 1) := by decide +kernel
theorem d_TB_trace_0 : decode m_TB_trace.2.1 0 = .ok (.iload_n 1, 1) := by decide +kernel
theorem d_TB_trace_1 : decode m_TB_trace.2.1 1 = .ok (.ifCond .lt 14, 3) := by decide +kernel
theorem d_TB_trace_4 : decode m_TB_trace.2.1 4 = .ok (.iload_n 1, 1) := by decide +kernel
theorem d_TB_trace_5 : decode m_TB_trace.2.1 5 = .ok (.aload_n 0, 1) := by decide +kernel
theorem d_TB_trace_6 : decode m_TB_trace.2.1 6 = .ok (.getfield 38, 3) := by decide +kernel
theorem d_TB_trace_9 : decode m_TB_trace.2.1 9 = .ok (.invokevirtual 148, 3) := by decide +kernel
theorem d_TB_trace_12 : decode m_TB_trace.2.1 12 = .ok (.if_icmp .lt 11, 3) := by decide +kernel
theorem d_TB_trace_15 : decode m_TB_trace.2.1 15 = .ok (.new 149, 3) := by decide +kernel
theorem d_TB_trace_18 : decode m_TB_trace.2.1 18 = .ok (.dup, 1) := by decide +kernel
theorem d_TB_trace_19 : decode m_TB_trace.2.1 19 = .ok (.invokespecial 151, 3) := by decide +kernel
theorem d_TB_trace_22 : decode m_TB_trace.2.1 22 = .ok (.athrow, 1) := by decide +kernel
theorem d_TB_trace_23 : decode m_TB_trace.2.1 23 = .ok (.aload_n 0, 1) := by decide +kernel
theorem d_TB_trace_24 : decode m_TB_trace.2.1 24 = .ok (.getfield 38, 3) := by decide +kernel
theorem d_TB_trace_27 : decode m_TB_trace.2.1 27 = .ok (.iload_n 1, 1) := by decide +kernel
theorem d_TB_trace_28 : decode m_TB_trace.2.1 28 = .ok (.invokevirtual 152, 3) := by decide +kernel
theorem d_TB_trace_31 : decode m_TB_trace.2.1 31 = .ok (.iload_n 2, 1) := by decide +kernel
theorem d_TB_trace_32 : decode m_TB_trace.2.1 32 = .ok (.invokevirtual 155, 3) := by decide +kernel
theorem d_TB_trace_35 : decode m_TB_trace.2.1 35 = .ok (.ireturn, 1) := by decide +kernel
theorem d_TB_number_0 : decode m_TB_number.2.1 0 = .ok (.iload_n 1, 1) := by decide +kernel
theorem d_TB_number_1 : decode m_TB_number.2.1 1 = .ok (.invokestatic 98, 3) := by decide +kernel
theorem d_TB_number_4 : decode m_TB_number.2.1 4 = .ok (.ifCond .eq 19, 3) := by decide +kernel
theorem d_TB_number_7 : decode m_TB_number.2.1 7 = .ok (.iload_n 2, 1) := by decide +kernel
theorem d_TB_number_8 : decode m_TB_number.2.1 8 = .ok (.ifCond .lt 15, 3) := by decide +kernel
theorem d_TB_number_11 : decode m_TB_number.2.1 11 = .ok (.iload_n 2, 1) := by decide +kernel
theorem d_TB_number_12 : decode m_TB_number.2.1 12 = .ok (.aload_n 0, 1) := by decide +kernel
theorem d_TB_number_13 : decode m_TB_number.2.1 13 = .ok (.getfield 28, 3) := by decide +kernel
theorem d_TB_number_16 : decode m_TB_number.2.1 16 = .ok (.iload_n 1, 1) := by decide +kernel
theorem d_TB_number_17 : decode m_TB_number.2.1 17 = .ok (.invokevirtual 105, 3) := by decide +kernel
theorem d_TB_number_20 : decode m_TB_number.2.1 20 = .ok (.if_icmp .lt 11, 3) := by decide +kernel
theorem d_TB_number_23 : decode m_TB_number.2.1 23 = .ok (.new 149, 3) := by decide +kernel
theorem d_TB_number_26 : decode m_TB_number.2.1 26 = .ok (.dup, 1) := by decide +kernel
theorem d_TB_number_27 : decode m_TB_number.2.1 27 = .ok (.invokespecial 151, 3) := by decide +kernel
theorem d_TB_number_30 : decode m_TB_number.2.1 30 = .ok (.athrow, 1) := by decide +kernel
theorem d_TB_number_31 : decode m_TB_number.2.1 31 = .ok (.aload_n 0, 1) := by decide +kernel
theorem d_TB_number_32 : decode m_TB_number.2.1 32 = .ok (.getfield 28, 3) := by decide +kernel
theorem d_TB_number_35 : decode m_TB_number.2.1 35 = .ok (.iload_n 1, 1) := by decide +kernel
theorem d_TB_number_36 : decode m_TB_number.2.1 36 = .ok (.iload_n 2, 1) := by decide +kernel
theorem d_TB_number_37 : decode m_TB_number.2.1 37 = .ok (.invokevirtual 166, 3) := by decide +kernel
theorem d_TB_number_40 : decode m_TB_number.2.1 40 = .ok (.ireturn, 1) := by decide +kernel
theorem d_Cr_work_0 : decode m_Cr_work.2.1 0 = .ok (.aload_n 0, 1) := by decide +kernel
theorem d_Cr_work_1 : decode m_Cr_work.2.1 1 = .ok (.aload_n 1, 1) := by decide +kernel
theorem d_Cr_work_2 : decode m_Cr_work.2.1 2 = .ok (.aload_n 2, 1) := by decide +kernel
theorem d_Cr_work_3 : decode m_Cr_work.2.1 3 = .ok (.invokevirtual 9, 3) := by decide +kernel
theorem d_Cr_work_6 : decode m_Cr_work.2.1 6 = .ok (.iconst 0, 1) := by decide +kernel
theorem d_Cr_work_7 : decode m_Cr_work.2.1 7 = .ok (.istore_n 3, 1) := by decide +kernel
theorem d_Cr_work_8 : decode m_Cr_work.2.1 8 = .ok (.iload_n 3, 1) := by decide +kernel
theorem d_Cr_work_9 : decode m_Cr_work.2.1 9 = .ok (.aload_n 1, 1) := by decide +kernel
theorem d_Cr_work_10 : decode m_Cr_work.2.1 10 = .ok (.invokevirtual 15, 3) := by decide +kernel
theorem d_Cr_work_13 : decode m_Cr_work.2.1 13 = .ok (.if_icmp .ge 54, 3) := by decide +kernel
theorem d_Cr_work_16 : decode m_Cr_work.2.1 16 = .ok (.aload_n 1, 1) := by decide +kernel
theorem d_Cr_work_17 : decode m_Cr_work.2.1 17 = .ok (.iload_n 3, 1) := by decide +kernel
theorem d_Cr_work_18 : decode m_Cr_work.2.1 18 = .ok (.invokevirtual 21, 3) := by decide +kernel
theorem d_Cr_work_21 : decode m_Cr_work.2.1 21 = .ok (.bipush 63, 2) := by decide +kernel
theorem d_Cr_work_23 : decode m_Cr_work.2.1 23 = .ok (.if_icmp .ne 44, 3) := by decide +kernel
theorem d_Cr_work_26 : decode m_Cr_work.2.1 26 = .ok (.aload_n 0, 1) := by decide +kernel
theorem d_Cr_work_27 : decode m_Cr_work.2.1 27 = .ok (.iload_n 3, 1) := by decide +kernel
theorem d_Cr_work_28 : decode m_Cr_work.2.1 28 = .ok (.iconst 1, 1) := by decide +kernel
theorem d_Cr_work_29 : decode m_Cr_work.2.1 29 = .ok (.iadd, 1) := by decide +kernel
theorem d_Cr_work_30 : decode m_Cr_work.2.1 30 = .ok (.invokestatic 25, 3) := by decide +kernel
theorem d_Cr_work_33 : decode m_Cr_work.2.1 33 = .ok (.istore 4, 2) := by decide +kernel
theorem d_Cr_work_35 : decode m_Cr_work.2.1 35 = .ok (.aload_n 0, 1) := by decide +kernel
theorem d_Cr_work_36 : decode m_Cr_work.2.1 36 = .ok (.getfield 31, 3) := by decide +kernel
theorem d_Cr_work_39 : decode m_Cr_work.2.1 39 = .ok (.iload 4, 2) := by decide +kernel
theorem d_Cr_work_41 : decode m_Cr_work.2.1 41 = .ok (.invokevirtual 35, 3) := by decide +kernel
theorem d_Cr_work_44 : decode m_Cr_work.2.1 44 = .ok (.ifCond .eq 16, 3) := by decide +kernel
theorem d_Cr_work_47 : decode m_Cr_work.2.1 47 = .ok (.aload_n 0, 1) := by decide +kernel
theorem d_Cr_work_48 : decode m_Cr_work.2.1 48 = .ok (.getfield 31, 3) := by decide +kernel
theorem d_Cr_work_51 : decode m_Cr_work.2.1 51 = .ok (.iload 4, 2) := by decide +kernel
theorem d_Cr_work_53 : decode m_Cr_work.2.1 53 = .ok (.iconst 0, 1) := by decide +kernel
theorem d_Cr_work_54 : decode m_Cr_work.2.1 54 = .ok (.invokevirtual 40, 3) := by decide +kernel
theorem d_Cr_work_57 : decode m_Cr_work.2.1 57 = .ok (.ifCond .ne 4, 3) := by decide +kernel
theorem d_Cr_work_60 : decode m_Cr_work.2.1 60 = .ok (.return_, 1) := by decide +kernel
theorem d_Cr_work_61 : decode m_Cr_work.2.1 61 = .ok (.iinc 3 2, 3) := by decide +kernel
theorem d_Cr_work_64 : decode m_Cr_work.2.1 64 = .ok (.goto (-56), 3) := by decide +kernel
theorem d_Cr_work_67 : decode m_Cr_work.2.1 67 = .ok (.aload_n 0, 1) := by decide +kernel
theorem d_Cr_work_68 : decode m_Cr_work.2.1 68 = .ok (.iload_n 3, 1) := by decide +kernel
theorem d_Cr_work_69 : decode m_Cr_work.2.1 69 = .ok (.invokestatic 43, 3) := by decide +kernel
theorem d_Cr_work_72 : decode m_Cr_work.2.1 72 = .ok (.return_, 1) := by decide +kernel
theorem d_Cr_read_0 : decode m_Cr_read.2.1 0 = .ok (.aload_n 0, 1) := by decide +kernel
theorem d_Cr_read_1 : decode m_Cr_read.2.1 1 = .ok (.getfield 47, 3) := by decide +kernel
theorem d_Cr_read_4 : decode m_Cr_read.2.1 4 = .ok (.iload_n 1, 1) := by decide +kernel
theorem d_Cr_read_5 : decode m_Cr_read.2.1 5 = .ok (.invokevirtual 51, 3) := by decide +kernel
theorem d_Cr_read_8 : decode m_Cr_read.2.1 8 = .ok (.istore_n 2, 1) := by decide +kernel
theorem d_Cr_read_9 : decode m_Cr_read.2.1 9 = .ok (.aload_n 0, 1) := by decide +kernel
theorem d_Cr_read_10 : decode m_Cr_read.2.1 10 = .ok (.dup, 1) := by decide +kernel
theorem d_Cr_read_11 : decode m_Cr_read.2.1 11 = .ok (.getfield 91, 3) := by decide +kernel
theorem d_Cr_read_14 : decode m_Cr_read.2.1 14 = .ok (.iconst 1, 1) := by decide +kernel
theorem d_Cr_read_15 : decode m_Cr_read.2.1 15 = .ok (.iload_n 2, 1) := by decide +kernel
theorem d_Cr_read_16 : decode m_Cr_read.2.1 16 = .ok (.ishl, 1) := by decide +kernel
theorem d_Cr_read_17 : decode m_Cr_read.2.1 17 = .ok (.ior, 1) := by decide +kernel
theorem d_Cr_read_18 : decode m_Cr_read.2.1 18 = .ok (.putfield 91, 3) := by decide +kernel
theorem d_Cr_read_21 : decode m_Cr_read.2.1 21 = .ok (.iload_n 2, 1) := by decide +kernel
theorem d_Cr_read_22 : decode m_Cr_read.2.1 22 = .ok (.ireturn, 1) := by decide +kernel
theorem d_Cr_workPlain_0 : decode m_Cr_workPlain.2.1 0 = .ok (.aload_n 0, 1) := by decide +kernel
theorem d_Cr_workPlain_1 : decode m_Cr_workPlain.2.1 1 = .ok (.aload_n 0, 1) := by decide +kernel
theorem d_Cr_workPlain_2 : decode m_Cr_workPlain.2.1 2 = .ok (.getfield 47, 3) := by decide +kernel
theorem d_Cr_workPlain_5 : decode m_Cr_workPlain.2.1 5 = .ok (.aload_n 0, 1) := by decide +kernel
theorem d_Cr_workPlain_6 : decode m_Cr_workPlain.2.1 6 = .ok (.getfield 47, 3) := by decide +kernel
theorem d_Cr_workPlain_9 : decode m_Cr_workPlain.2.1 9 = .ok (.invokevirtual 15, 3) := by decide +kernel
theorem d_Cr_workPlain_12 : decode m_Cr_workPlain.2.1 12 = .ok (.iconst 1, 1) := by decide +kernel
theorem d_Cr_workPlain_13 : decode m_Cr_workPlain.2.1 13 = .ok (.isub, 1) := by decide +kernel
theorem d_Cr_workPlain_14 : decode m_Cr_workPlain.2.1 14 = .ok (.invokevirtual 51, 3) := by decide +kernel
theorem d_Cr_workPlain_17 : decode m_Cr_workPlain.2.1 17 = .ok (.putfield 54, 3) := by decide +kernel
theorem d_Cr_workPlain_20 : decode m_Cr_workPlain.2.1 20 = .ok (.aload_n 0, 1) := by decide +kernel
theorem d_Cr_workPlain_21 : decode m_Cr_workPlain.2.1 21 = .ok (.getfield 31, 3) := by decide +kernel
theorem d_Cr_workPlain_24 : decode m_Cr_workPlain.2.1 24 = .ok (.bipush 12, 2) := by decide +kernel
theorem d_Cr_workPlain_26 : decode m_Cr_workPlain.2.1 26 = .ok (.invokevirtual 58, 3) := by decide +kernel
theorem d_Cr_workPlain_29 : decode m_Cr_workPlain.2.1 29 = .ok (.aload_n 0, 1) := by decide +kernel
theorem d_Cr_workPlain_30 : decode m_Cr_workPlain.2.1 30 = .ok (.getfield 47, 3) := by decide +kernel
theorem d_Cr_workPlain_33 : decode m_Cr_workPlain.2.1 33 = .ok (.iload_n 1, 1) := by decide +kernel
theorem d_Cr_workPlain_34 : decode m_Cr_workPlain.2.1 34 = .ok (.invokevirtual 21, 3) := by decide +kernel
theorem d_Cr_workPlain_37 : decode m_Cr_workPlain.2.1 37 = .ok (.istore_n 2, 1) := by decide +kernel
theorem d_Cr_workPlain_38 : decode m_Cr_workPlain.2.1 38 = .ok (.iload_n 2, 1) := by decide +kernel
theorem d_Cr_workPlain_39 : decode m_Cr_workPlain.2.1 39 = .ok (.lookupswitch 214 #[(43, 112), (99, 73), (102, 156), (106, 87), (108, 207), (110, 180), (112, 190), (115, 133)], 73) := by decide +kernel
theorem d_Cr_workPlain_112 : decode m_Cr_workPlain.2.1 112 = .ok (.aload_n 0, 1) := by decide +kernel
theorem d_Cr_workPlain_113 : decode m_Cr_workPlain.2.1 113 = .ok (.aload_n 0, 1) := by decide +kernel
theorem d_Cr_workPlain_114 : decode m_Cr_workPlain.2.1 114 = .ok (.iload_n 1, 1) := by decide +kernel
theorem d_Cr_workPlain_115 : decode m_Cr_workPlain.2.1 115 = .ok (.iconst 1, 1) := by decide +kernel
theorem d_Cr_workPlain_116 : decode m_Cr_workPlain.2.1 116 = .ok (.iadd, 1) := by decide +kernel
theorem d_Cr_workPlain_117 : decode m_Cr_workPlain.2.1 117 = .ok (.invokestatic 25, 3) := by decide +kernel
theorem d_Cr_workPlain_120 : decode m_Cr_workPlain.2.1 120 = .ok (.invokestatic 62, 3) := by decide +kernel
theorem d_Cr_workPlain_123 : decode m_Cr_workPlain.2.1 123 = .ok (.goto 139, 3) := by decide +kernel
theorem d_Cr_workPlain_126 : decode m_Cr_workPlain.2.1 126 = .ok (.aload_n 0, 1) := by decide +kernel
theorem d_Cr_workPlain_127 : decode m_Cr_workPlain.2.1 127 = .ok (.aload_n 0, 1) := by decide +kernel
theorem d_Cr_workPlain_128 : decode m_Cr_workPlain.2.1 128 = .ok (.iload_n 1, 1) := by decide +kernel
theorem d_Cr_workPlain_129 : decode m_Cr_workPlain.2.1 129 = .ok (.iconst 1, 1) := by decide +kernel
theorem d_Cr_workPlain_130 : decode m_Cr_workPlain.2.1 130 = .ok (.iadd, 1) := by decide +kernel
theorem d_Cr_workPlain_131 : decode m_Cr_workPlain.2.1 131 = .ok (.invokestatic 25, 3) := by decide +kernel
theorem d_Cr_workPlain_134 : decode m_Cr_workPlain.2.1 134 = .ok (.invokestatic 62, 3) := by decide +kernel
theorem d_Cr_workPlain_137 : decode m_Cr_workPlain.2.1 137 = .ok (.aload_n 0, 1) := by decide +kernel
theorem d_Cr_workPlain_138 : decode m_Cr_workPlain.2.1 138 = .ok (.aload_n 0, 1) := by decide +kernel
theorem d_Cr_workPlain_139 : decode m_Cr_workPlain.2.1 139 = .ok (.iload_n 1, 1) := by decide +kernel
theorem d_Cr_workPlain_140 : decode m_Cr_workPlain.2.1 140 = .ok (.iconst 2, 1) := by decide +kernel
theorem d_Cr_workPlain_141 : decode m_Cr_workPlain.2.1 141 = .ok (.iadd, 1) := by decide +kernel
theorem d_Cr_workPlain_142 : decode m_Cr_workPlain.2.1 142 = .ok (.invokestatic 25, 3) := by decide +kernel
theorem d_Cr_workPlain_145 : decode m_Cr_workPlain.2.1 145 = .ok (.invokestatic 62, 3) := by decide +kernel
theorem d_Cr_workPlain_148 : decode m_Cr_workPlain.2.1 148 = .ok (.goto 114, 3) := by decide +kernel
theorem d_Cr_workPlain_151 : decode m_Cr_workPlain.2.1 151 = .ok (.aload_n 0, 1) := by decide +kernel
theorem d_Cr_workPlain_152 : decode m_Cr_workPlain.2.1 152 = .ok (.aload_n 0, 1) := by decide +kernel
theorem d_Cr_workPlain_153 : decode m_Cr_workPlain.2.1 153 = .ok (.iload_n 1, 1) := by decide +kernel
theorem d_Cr_workPlain_154 : decode m_Cr_workPlain.2.1 154 = .ok (.iconst 1, 1) := by decide +kernel
theorem d_Cr_workPlain_155 : decode m_Cr_workPlain.2.1 155 = .ok (.iadd, 1) := by decide +kernel
theorem d_Cr_workPlain_156 : decode m_Cr_workPlain.2.1 156 = .ok (.invokestatic 25, 3) := by decide +kernel
theorem d_Cr_workPlain_159 : decode m_Cr_workPlain.2.1 159 = .ok (.aload_n 0, 1) := by decide +kernel
theorem d_Cr_workPlain_160 : decode m_Cr_workPlain.2.1 160 = .ok (.iload_n 1, 1) := by decide +kernel
theorem d_Cr_workPlain_161 : decode m_Cr_workPlain.2.1 161 = .ok (.iconst 2, 1) := by decide +kernel
theorem d_Cr_workPlain_162 : decode m_Cr_workPlain.2.1 162 = .ok (.iadd, 1) := by decide +kernel
theorem d_Cr_workPlain_163 : decode m_Cr_workPlain.2.1 163 = .ok (.invokestatic 25, 3) := by decide +kernel
theorem d_Cr_workPlain_166 : decode m_Cr_workPlain.2.1 166 = .ok (.invokestatic 65, 3) := by decide +kernel
theorem d_Cr_workPlain_169 : decode m_Cr_workPlain.2.1 169 = .ok (.goto 93, 3) := by decide +kernel
theorem d_Cr_workPlain_172 : decode m_Cr_workPlain.2.1 172 = .ok (.aload_n 0, 1) := by decide +kernel
theorem d_Cr_workPlain_173 : decode m_Cr_workPlain.2.1 173 = .ok (.aload_n 0, 1) := by decide +kernel
theorem d_Cr_workPlain_174 : decode m_Cr_workPlain.2.1 174 = .ok (.iload_n 1, 1) := by decide +kernel
theorem d_Cr_workPlain_175 : decode m_Cr_workPlain.2.1 175 = .ok (.iconst 1, 1) := by decide +kernel
theorem d_Cr_workPlain_176 : decode m_Cr_workPlain.2.1 176 = .ok (.iadd, 1) := by decide +kernel
theorem d_Cr_workPlain_177 : decode m_Cr_workPlain.2.1 177 = .ok (.invokestatic 25, 3) := by decide +kernel
theorem d_Cr_workPlain_180 : decode m_Cr_workPlain.2.1 180 = .ok (.invokestatic 62, 3) := by decide +kernel
theorem d_Cr_workPlain_183 : decode m_Cr_workPlain.2.1 183 = .ok (.aload_n 0, 1) := by decide +kernel
theorem d_Cr_workPlain_184 : decode m_Cr_workPlain.2.1 184 = .ok (.getfield 31, 3) := by decide +kernel
theorem d_Cr_workPlain_187 : decode m_Cr_workPlain.2.1 187 = .ok (.bipush 12, 2) := by decide +kernel
theorem d_Cr_workPlain_189 : decode m_Cr_workPlain.2.1 189 = .ok (.invokevirtual 69, 3) := by decide +kernel
theorem d_Cr_workPlain_192 : decode m_Cr_workPlain.2.1 192 = .ok (.goto 70, 3) := by decide +kernel
theorem d_Cr_workPlain_195 : decode m_Cr_workPlain.2.1 195 = .ok (.aload_n 0, 1) := by decide +kernel
theorem d_Cr_workPlain_196 : decode m_Cr_workPlain.2.1 196 = .ok (.aload_n 0, 1) := by decide +kernel
theorem d_Cr_workPlain_197 : decode m_Cr_workPlain.2.1 197 = .ok (.getfield 47, 3) := by decide +kernel
theorem d_Cr_workPlain_200 : decode m_Cr_workPlain.2.1 200 = .ok (.iload_n 1, 1) := by decide +kernel
theorem d_Cr_workPlain_201 : decode m_Cr_workPlain.2.1 201 = .ok (.iconst 1, 1) := by decide +kernel
theorem d_Cr_workPlain_202 : decode m_Cr_workPlain.2.1 202 = .ok (.iadd, 1) := by decide +kernel
theorem d_Cr_workPlain_203 : decode m_Cr_workPlain.2.1 203 = .ok (.invokevirtual 72, 3) := by decide +kernel
theorem d_Cr_workPlain_206 : decode m_Cr_workPlain.2.1 206 = .ok (.aload_n 0, 1) := by decide +kernel
theorem d_Cr_workPlain_207 : decode m_Cr_workPlain.2.1 207 = .ok (.iload_n 1, 1) := by decide +kernel
theorem d_Cr_workPlain_208 : decode m_Cr_workPlain.2.1 208 = .ok (.iconst 2, 1) := by decide +kernel
theorem d_Cr_workPlain_209 : decode m_Cr_workPlain.2.1 209 = .ok (.iadd, 1) := by decide +kernel
theorem d_Cr_workPlain_210 : decode m_Cr_workPlain.2.1 210 = .ok (.invokestatic 25, 3) := by decide +kernel
theorem d_Cr_workPlain_213 : decode m_Cr_workPlain.2.1 213 = .ok (.invokestatic 75, 3) := by decide +kernel
theorem d_Cr_workPlain_216 : decode m_Cr_workPlain.2.1 216 = .ok (.goto 46, 3) := by decide +kernel
theorem d_Cr_workPlain_219 : decode m_Cr_workPlain.2.1 219 = .ok (.aload_n 0, 1) := by decide +kernel
theorem d_Cr_workPlain_220 : decode m_Cr_workPlain.2.1 220 = .ok (.iload_n 1, 1) := by decide +kernel
theorem d_Cr_workPlain_221 : decode m_Cr_workPlain.2.1 221 = .ok (.iconst 1, 1) := by decide +kernel
theorem d_Cr_workPlain_222 : decode m_Cr_workPlain.2.1 222 = .ok (.iadd, 1) := by decide +kernel
theorem d_Cr_workPlain_223 : decode m_Cr_workPlain.2.1 223 = .ok (.invokestatic 78, 3) := by decide +kernel
theorem d_Cr_workPlain_226 : decode m_Cr_workPlain.2.1 226 = .ok (.goto 36, 3) := by decide +kernel
theorem d_Cr_workPlain_229 : decode m_Cr_workPlain.2.1 229 = .ok (.aload_n 0, 1) := by decide +kernel
theorem d_Cr_workPlain_230 : decode m_Cr_workPlain.2.1 230 = .ok (.aload_n 0, 1) := by decide +kernel
theorem d_Cr_workPlain_231 : decode m_Cr_workPlain.2.1 231 = .ok (.getfield 47, 3) := by decide +kernel
theorem d_Cr_workPlain_234 : decode m_Cr_workPlain.2.1 234 = .ok (.iload_n 1, 1) := by decide +kernel
theorem d_Cr_workPlain_235 : decode m_Cr_workPlain.2.1 235 = .ok (.iconst 1, 1) := by decide +kernel
theorem d_Cr_workPlain_236 : decode m_Cr_workPlain.2.1 236 = .ok (.iadd, 1) := by decide +kernel
theorem d_Cr_workPlain_237 : decode m_Cr_workPlain.2.1 237 = .ok (.invokevirtual 51, 3) := by decide +kernel
theorem d_Cr_workPlain_240 : decode m_Cr_workPlain.2.1 240 = .ok (.invokestatic 81, 3) := by decide +kernel
theorem d_Cr_workPlain_243 : decode m_Cr_workPlain.2.1 243 = .ok (.goto 19, 3) := by decide +kernel
theorem d_Cr_workPlain_246 : decode m_Cr_workPlain.2.1 246 = .ok (.aload_n 0, 1) := by decide +kernel
theorem d_Cr_workPlain_247 : decode m_Cr_workPlain.2.1 247 = .ok (.invokestatic 84, 3) := by decide +kernel
theorem d_Cr_workPlain_250 : decode m_Cr_workPlain.2.1 250 = .ok (.goto 12, 3) := by decide +kernel
theorem d_Cr_workPlain_253 : decode m_Cr_workPlain.2.1 253 = .ok (.aload_n 0, 1) := by decide +kernel
theorem d_Cr_workPlain_254 : decode m_Cr_workPlain.2.1 254 = .ok (.getfield 31, 3) := by decide +kernel
theorem d_Cr_workPlain_257 : decode m_Cr_workPlain.2.1 257 = .ok (.bipush 12, 2) := by decide +kernel
theorem d_Cr_workPlain_259 : decode m_Cr_workPlain.2.1 259 = .ok (.invokevirtual 88, 3) := by decide +kernel
theorem d_Cr_workPlain_262 : decode m_Cr_workPlain.2.1 262 = .ok (.return_, 1) := by decide +kernel
theorem d_Cr_copy_0 : decode m_Cr_copy.2.1 0 = .ok (.iconst 0, 1) := by decide +kernel
theorem d_Cr_copy_1 : decode m_Cr_copy.2.1 1 = .ok (.istore_n 2, 1) := by decide +kernel
theorem d_Cr_copy_2 : decode m_Cr_copy.2.1 2 = .ok (.iload_n 2, 1) := by decide +kernel
theorem d_Cr_copy_3 : decode m_Cr_copy.2.1 3 = .ok (.aload_n 0, 1) := by decide +kernel
theorem d_Cr_copy_4 : decode m_Cr_copy.2.1 4 = .ok (.getfield 31, 3) := by decide +kernel
theorem d_Cr_copy_7 : decode m_Cr_copy.2.1 7 = .ok (.iload_n 1, 1) := by decide +kernel
theorem d_Cr_copy_8 : decode m_Cr_copy.2.1 8 = .ok (.invokevirtual 35, 3) := by decide +kernel
theorem d_Cr_copy_11 : decode m_Cr_copy.2.1 11 = .ok (.if_icmp .ge 28, 3) := by decide +kernel
theorem d_Cr_copy_14 : decode m_Cr_copy.2.1 14 = .ok (.aload_n 0, 1) := by decide +kernel
theorem d_Cr_copy_15 : decode m_Cr_copy.2.1 15 = .ok (.getfield 31, 3) := by decide +kernel
theorem d_Cr_copy_18 : decode m_Cr_copy.2.1 18 = .ok (.bipush 12, 2) := by decide +kernel
theorem d_Cr_copy_20 : decode m_Cr_copy.2.1 20 = .ok (.aload_n 0, 1) := by decide +kernel
theorem d_Cr_copy_21 : decode m_Cr_copy.2.1 21 = .ok (.getfield 31, 3) := by decide +kernel
theorem d_Cr_copy_24 : decode m_Cr_copy.2.1 24 = .ok (.iload_n 1, 1) := by decide +kernel
theorem d_Cr_copy_25 : decode m_Cr_copy.2.1 25 = .ok (.iload_n 2, 1) := by decide +kernel
theorem d_Cr_copy_26 : decode m_Cr_copy.2.1 26 = .ok (.invokevirtual 40, 3) := by decide +kernel
theorem d_Cr_copy_29 : decode m_Cr_copy.2.1 29 = .ok (.invokevirtual 93, 3) := by decide +kernel
theorem d_Cr_copy_32 : decode m_Cr_copy.2.1 32 = .ok (.pop, 1) := by decide +kernel
theorem d_Cr_copy_33 : decode m_Cr_copy.2.1 33 = .ok (.iinc 2 1, 3) := by decide +kernel
theorem d_Cr_copy_36 : decode m_Cr_copy.2.1 36 = .ok (.goto (-34), 3) := by decide +kernel
theorem d_Cr_copy_39 : decode m_Cr_copy.2.1 39 = .ok (.return_, 1) := by decide +kernel
theorem d_Cr_sum_0 : decode m_Cr_sum.2.1 0 = .ok (.aload_n 0, 1) := by decide +kernel
theorem d_Cr_sum_1 : decode m_Cr_sum.2.1 1 = .ok (.getfield 31, 3) := by decide +kernel
theorem d_Cr_sum_4 : decode m_Cr_sum.2.1 4 = .ok (.iload_n 1, 1) := by decide +kernel
theorem d_Cr_sum_5 : decode m_Cr_sum.2.1 5 = .ok (.invokevirtual 35, 3) := by decide +kernel
theorem d_Cr_sum_8 : decode m_Cr_sum.2.1 8 = .ok (.aload_n 0, 1) := by decide +kernel
theorem d_Cr_sum_9 : decode m_Cr_sum.2.1 9 = .ok (.getfield 31, 3) := by decide +kernel
theorem d_Cr_sum_12 : decode m_Cr_sum.2.1 12 = .ok (.iload_n 2, 1) := by decide +kernel
theorem d_Cr_sum_13 : decode m_Cr_sum.2.1 13 = .ok (.invokevirtual 35, 3) := by decide +kernel
theorem d_Cr_sum_16 : decode m_Cr_sum.2.1 16 = .ok (.invokestatic 97, 3) := by decide +kernel
theorem d_Cr_sum_19 : decode m_Cr_sum.2.1 19 = .ok (.istore_n 3, 1) := by decide +kernel
theorem d_Cr_sum_20 : decode m_Cr_sum.2.1 20 = .ok (.iconst 0, 1) := by decide +kernel
theorem d_Cr_sum_21 : decode m_Cr_sum.2.1 21 = .ok (.istore 4, 2) := by decide +kernel
theorem d_Cr_sum_23 : decode m_Cr_sum.2.1 23 = .ok (.iload 4, 2) := by decide +kernel
theorem d_Cr_sum_25 : decode m_Cr_sum.2.1 25 = .ok (.iload_n 3, 1) := by decide +kernel
theorem d_Cr_sum_26 : decode m_Cr_sum.2.1 26 = .ok (.if_icmp .ge 41, 3) := by decide +kernel
theorem d_Cr_sum_29 : decode m_Cr_sum.2.1 29 = .ok (.aload_n 0, 1) := by decide +kernel
theorem d_Cr_sum_30 : decode m_Cr_sum.2.1 30 = .ok (.getfield 31, 3) := by decide +kernel
theorem d_Cr_sum_33 : decode m_Cr_sum.2.1 33 = .ok (.bipush 12, 2) := by decide +kernel
theorem d_Cr_sum_35 : decode m_Cr_sum.2.1 35 = .ok (.aload_n 0, 1) := by decide +kernel
theorem d_Cr_sum_36 : decode m_Cr_sum.2.1 36 = .ok (.getfield 31, 3) := by decide +kernel
theorem d_Cr_sum_39 : decode m_Cr_sum.2.1 39 = .ok (.iload_n 1, 1) := by decide +kernel
theorem d_Cr_sum_40 : decode m_Cr_sum.2.1 40 = .ok (.iload 4, 2) := by decide +kernel
theorem d_Cr_sum_42 : decode m_Cr_sum.2.1 42 = .ok (.invokevirtual 40, 3) := by decide +kernel
theorem d_Cr_sum_45 : decode m_Cr_sum.2.1 45 = .ok (.aload_n 0, 1) := by decide +kernel
theorem d_Cr_sum_46 : decode m_Cr_sum.2.1 46 = .ok (.getfield 31, 3) := by decide +kernel
theorem d_Cr_sum_49 : decode m_Cr_sum.2.1 49 = .ok (.iload_n 2, 1) := by decide +kernel
theorem d_Cr_sum_50 : decode m_Cr_sum.2.1 50 = .ok (.iload 4, 2) := by decide +kernel
theorem d_Cr_sum_52 : decode m_Cr_sum.2.1 52 = .ok (.invokevirtual 40, 3) := by decide +kernel
theorem d_Cr_sum_55 : decode m_Cr_sum.2.1 55 = .ok (.iadd, 1) := by decide +kernel
theorem d_Cr_sum_56 : decode m_Cr_sum.2.1 56 = .ok (.i2s, 1) := by decide +kernel
theorem d_Cr_sum_57 : decode m_Cr_sum.2.1 57 = .ok (.invokevirtual 93, 3) := by decide +kernel
theorem d_Cr_sum_60 : decode m_Cr_sum.2.1 60 = .ok (.pop, 1) := by decide +kernel
theorem d_Cr_sum_61 : decode m_Cr_sum.2.1 61 = .ok (.iinc 4 1, 3) := by decide +kernel
theorem d_Cr_sum_64 : decode m_Cr_sum.2.1 64 = .ok (.goto (-41), 3) := by decide +kernel
theorem d_Cr_sum_67 : decode m_Cr_sum.2.1 67 = .ok (.return_, 1) := by decide +kernel
theorem d_Cr_copyDivided_0 : decode m_Cr_copyDivided.2.1 0 = .ok (.iconst 0, 1) := by decide +kernel
theorem d_Cr_copyDivided_1 : decode m_Cr_copyDivided.2.1 1 = .ok (.istore_n 3, 1) := by decide +kernel
theorem d_Cr_copyDivided_2 : decode m_Cr_copyDivided.2.1 2 = .ok (.iload_n 3, 1) := by decide +kernel
theorem d_Cr_copyDivided_3 : decode m_Cr_copyDivided.2.1 3 = .ok (.aload_n 0, 1) := by decide +kernel
theorem d_Cr_copyDivided_4 : decode m_Cr_copyDivided.2.1 4 = .ok (.getfield 31, 3) := by decide +kernel
theorem d_Cr_copyDivided_7 : decode m_Cr_copyDivided.2.1 7 = .ok (.iload_n 2, 1) := by decide +kernel
theorem d_Cr_copyDivided_8 : decode m_Cr_copyDivided.2.1 8 = .ok (.invokevirtual 35, 3) := by decide +kernel
theorem d_Cr_copyDivided_11 : decode m_Cr_copyDivided.2.1 11 = .ok (.if_icmp .ge 43, 3) := by decide +kernel
theorem d_Cr_copyDivided_14 : decode m_Cr_copyDivided.2.1 14 = .ok (.aload_n 0, 1) := by decide +kernel
theorem d_Cr_copyDivided_15 : decode m_Cr_copyDivided.2.1 15 = .ok (.getfield 31, 3) := by decide +kernel
theorem d_Cr_copyDivided_18 : decode m_Cr_copyDivided.2.1 18 = .ok (.iload_n 2, 1) := by decide +kernel
theorem d_Cr_copyDivided_19 : decode m_Cr_copyDivided.2.1 19 = .ok (.iload_n 3, 1) := by decide +kernel
theorem d_Cr_copyDivided_20 : decode m_Cr_copyDivided.2.1 20 = .ok (.invokevirtual 40, 3) := by decide +kernel
theorem d_Cr_copyDivided_23 : decode m_Cr_copyDivided.2.1 23 = .ok (.istore 4, 2) := by decide +kernel
theorem d_Cr_copyDivided_25 : decode m_Cr_copyDivided.2.1 25 = .ok (.iload_n 1, 1) := by decide +kernel
theorem d_Cr_copyDivided_26 : decode m_Cr_copyDivided.2.1 26 = .ok (.ifCond .le 22, 3) := by decide +kernel
theorem d_Cr_copyDivided_29 : decode m_Cr_copyDivided.2.1 29 = .ok (.iload 4, 2) := by decide +kernel
theorem d_Cr_copyDivided_31 : decode m_Cr_copyDivided.2.1 31 = .ok (.iload_n 1, 1) := by decide +kernel
theorem d_Cr_copyDivided_32 : decode m_Cr_copyDivided.2.1 32 = .ok (.irem, 1) := by decide +kernel
theorem d_Cr_copyDivided_33 : decode m_Cr_copyDivided.2.1 33 = .ok (.ifCond .ne 15, 3) := by decide +kernel
theorem d_Cr_copyDivided_36 : decode m_Cr_copyDivided.2.1 36 = .ok (.aload_n 0, 1) := by decide +kernel
theorem d_Cr_copyDivided_37 : decode m_Cr_copyDivided.2.1 37 = .ok (.getfield 31, 3) := by decide +kernel
theorem d_Cr_copyDivided_40 : decode m_Cr_copyDivided.2.1 40 = .ok (.bipush 12, 2) := by decide +kernel
theorem d_Cr_copyDivided_42 : decode m_Cr_copyDivided.2.1 42 = .ok (.iload 4, 2) := by decide +kernel
theorem d_Cr_copyDivided_44 : decode m_Cr_copyDivided.2.1 44 = .ok (.invokevirtual 93, 3) := by decide +kernel
theorem d_Cr_copyDivided_47 : decode m_Cr_copyDivided.2.1 47 = .ok (.pop, 1) := by decide +kernel
theorem d_Cr_copyDivided_48 : decode m_Cr_copyDivided.2.1 48 = .ok (.iinc 3 1, 3) := by decide +kernel
theorem d_Cr_copyDivided_51 : decode m_Cr_copyDivided.2.1 51 = .ok (.goto (-49), 3) := by decide +kernel
theorem d_Cr_copyDivided_54 : decode m_Cr_copyDivided.2.1 54 = .ok (.return_, 1) := by decide +kernel
theorem d_Cr_copyDigits_0 : decode m_Cr_copyDigits.2.1 0 = .ok (.iload_n 1, 1) := by decide +kernel
theorem d_Cr_copyDigits_1 : decode m_Cr_copyDigits.2.1 1 = .ok (.istore_n 2, 1) := by decide +kernel
theorem d_Cr_copyDigits_2 : decode m_Cr_copyDigits.2.1 2 = .ok (.iload_n 2, 1) := by decide +kernel
theorem d_Cr_copyDigits_3 : decode m_Cr_copyDigits.2.1 3 = .ok (.aload_n 0, 1) := by decide +kernel
theorem d_Cr_copyDigits_4 : decode m_Cr_copyDigits.2.1 4 = .ok (.getfield 47, 3) := by decide +kernel
theorem d_Cr_copyDigits_7 : decode m_Cr_copyDigits.2.1 7 = .ok (.invokevirtual 15, 3) := by decide +kernel
theorem d_Cr_copyDigits_10 : decode m_Cr_copyDigits.2.1 10 = .ok (.iconst 1, 1) := by decide +kernel
theorem d_Cr_copyDigits_11 : decode m_Cr_copyDigits.2.1 11 = .ok (.isub, 1) := by decide +kernel
theorem d_Cr_copyDigits_12 : decode m_Cr_copyDigits.2.1 12 = .ok (.if_icmp .ge 28, 3) := by decide +kernel
theorem d_Cr_copyDigits_15 : decode m_Cr_copyDigits.2.1 15 = .ok (.aload_n 0, 1) := by decide +kernel
theorem d_Cr_copyDigits_16 : decode m_Cr_copyDigits.2.1 16 = .ok (.getfield 31, 3) := by decide +kernel
theorem d_Cr_copyDigits_19 : decode m_Cr_copyDigits.2.1 19 = .ok (.bipush 12, 2) := by decide +kernel
theorem d_Cr_copyDigits_21 : decode m_Cr_copyDigits.2.1 21 = .ok (.aload_n 0, 1) := by decide +kernel
theorem d_Cr_copyDigits_22 : decode m_Cr_copyDigits.2.1 22 = .ok (.getfield 47, 3) := by decide +kernel
theorem d_Cr_copyDigits_25 : decode m_Cr_copyDigits.2.1 25 = .ok (.iload_n 2, 1) := by decide +kernel
theorem d_Cr_copyDigits_26 : decode m_Cr_copyDigits.2.1 26 = .ok (.invokevirtual 72, 3) := by decide +kernel
theorem d_Cr_copyDigits_29 : decode m_Cr_copyDigits.2.1 29 = .ok (.i2s, 1) := by decide +kernel
theorem d_Cr_copyDigits_30 : decode m_Cr_copyDigits.2.1 30 = .ok (.invokevirtual 93, 3) := by decide +kernel
theorem d_Cr_copyDigits_33 : decode m_Cr_copyDigits.2.1 33 = .ok (.pop, 1) := by decide +kernel
theorem d_Cr_copyDigits_34 : decode m_Cr_copyDigits.2.1 34 = .ok (.iinc 2 1, 3) := by decide +kernel
theorem d_Cr_copyDigits_37 : decode m_Cr_copyDigits.2.1 37 = .ok (.goto (-35), 3) := by decide +kernel
theorem d_Cr_copyDigits_40 : decode m_Cr_copyDigits.2.1 40 = .ok (.return_, 1) := by decide +kernel
theorem d_Cr_tellIfThere_0 : decode m_Cr_tellIfThere.2.1 0 = .ok (.aload_n 0, 1) := by decide +kernel
theorem d_Cr_tellIfThere_1 : decode m_Cr_tellIfThere.2.1 1 = .ok (.dup, 1) := by decide +kernel
theorem d_Cr_tellIfThere_2 : decode m_Cr_tellIfThere.2.1 2 = .ok (.getfield 103, 3) := by decide +kernel
theorem d_Cr_tellIfThere_5 : decode m_Cr_tellIfThere.2.1 5 = .ok (.iconst 1, 1) := by decide +kernel
theorem d_Cr_tellIfThere_6 : decode m_Cr_tellIfThere.2.1 6 = .ok (.iload_n 1, 1) := by decide +kernel
theorem d_Cr_tellIfThere_7 : decode m_Cr_tellIfThere.2.1 7 = .ok (.ishl, 1) := by decide +kernel
theorem d_Cr_tellIfThere_8 : decode m_Cr_tellIfThere.2.1 8 = .ok (.ior, 1) := by decide +kernel
theorem d_Cr_tellIfThere_9 : decode m_Cr_tellIfThere.2.1 9 = .ok (.putfield 103, 3) := by decide +kernel
theorem d_Cr_tellIfThere_12 : decode m_Cr_tellIfThere.2.1 12 = .ok (.aload_n 0, 1) := by decide +kernel
theorem d_Cr_tellIfThere_13 : decode m_Cr_tellIfThere.2.1 13 = .ok (.getfield 31, 3) := by decide +kernel
theorem d_Cr_tellIfThere_16 : decode m_Cr_tellIfThere.2.1 16 = .ok (.bipush 12, 2) := by decide +kernel
theorem d_Cr_tellIfThere_18 : decode m_Cr_tellIfThere.2.1 18 = .ok (.aload_n 0, 1) := by decide +kernel
theorem d_Cr_tellIfThere_19 : decode m_Cr_tellIfThere.2.1 19 = .ok (.getfield 31, 3) := by decide +kernel
theorem d_Cr_tellIfThere_22 : decode m_Cr_tellIfThere.2.1 22 = .ok (.iload_n 1, 1) := by decide +kernel
theorem d_Cr_tellIfThere_23 : decode m_Cr_tellIfThere.2.1 23 = .ok (.invokevirtual 106, 3) := by decide +kernel
theorem d_Cr_tellIfThere_26 : decode m_Cr_tellIfThere.2.1 26 = .ok (.ifCond .eq 7, 3) := by decide +kernel
theorem d_Cr_tellIfThere_29 : decode m_Cr_tellIfThere.2.1 29 = .ok (.iconst 1, 1) := by decide +kernel
theorem d_Cr_tellIfThere_30 : decode m_Cr_tellIfThere.2.1 30 = .ok (.goto 4, 3) := by decide +kernel
theorem d_Cr_tellIfThere_33 : decode m_Cr_tellIfThere.2.1 33 = .ok (.iconst 0, 1) := by decide +kernel
theorem d_Cr_tellIfThere_34 : decode m_Cr_tellIfThere.2.1 34 = .ok (.i2s, 1) := by decide +kernel
theorem d_Cr_tellIfThere_35 : decode m_Cr_tellIfThere.2.1 35 = .ok (.invokevirtual 93, 3) := by decide +kernel
theorem d_Cr_tellIfThere_38 : decode m_Cr_tellIfThere.2.1 38 = .ok (.pop, 1) := by decide +kernel
theorem d_Cr_tellIfThere_39 : decode m_Cr_tellIfThere.2.1 39 = .ok (.return_, 1) := by decide +kernel
theorem d_Cr_listFiles_0 : decode m_Cr_listFiles.2.1 0 = .ok (.iconst 0, 1) := by decide +kernel
theorem d_Cr_listFiles_1 : decode m_Cr_listFiles.2.1 1 = .ok (.istore_n 1, 1) := by decide +kernel
theorem d_Cr_listFiles_2 : decode m_Cr_listFiles.2.1 2 = .ok (.iload_n 1, 1) := by decide +kernel
theorem d_Cr_listFiles_3 : decode m_Cr_listFiles.2.1 3 = .ok (.bipush 12, 2) := by decide +kernel
theorem d_Cr_listFiles_5 : decode m_Cr_listFiles.2.1 5 = .ok (.if_icmp .ge 44, 3) := by decide +kernel
theorem d_Cr_listFiles_8 : decode m_Cr_listFiles.2.1 8 = .ok (.aload_n 0, 1) := by decide +kernel
theorem d_Cr_listFiles_9 : decode m_Cr_listFiles.2.1 9 = .ok (.dup, 1) := by decide +kernel
theorem d_Cr_listFiles_10 : decode m_Cr_listFiles.2.1 10 = .ok (.getfield 103, 3) := by decide +kernel
theorem d_Cr_listFiles_13 : decode m_Cr_listFiles.2.1 13 = .ok (.iconst 1, 1) := by decide +kernel
theorem d_Cr_listFiles_14 : decode m_Cr_listFiles.2.1 14 = .ok (.iload_n 1, 1) := by decide +kernel
theorem d_Cr_listFiles_15 : decode m_Cr_listFiles.2.1 15 = .ok (.ishl, 1) := by decide +kernel
theorem d_Cr_listFiles_16 : decode m_Cr_listFiles.2.1 16 = .ok (.ior, 1) := by decide +kernel
theorem d_Cr_listFiles_17 : decode m_Cr_listFiles.2.1 17 = .ok (.putfield 103, 3) := by decide +kernel
theorem d_Cr_listFiles_20 : decode m_Cr_listFiles.2.1 20 = .ok (.aload_n 0, 1) := by decide +kernel
theorem d_Cr_listFiles_21 : decode m_Cr_listFiles.2.1 21 = .ok (.getfield 31, 3) := by decide +kernel
theorem d_Cr_listFiles_24 : decode m_Cr_listFiles.2.1 24 = .ok (.iload_n 1, 1) := by decide +kernel
theorem d_Cr_listFiles_25 : decode m_Cr_listFiles.2.1 25 = .ok (.invokevirtual 106, 3) := by decide +kernel
theorem d_Cr_listFiles_28 : decode m_Cr_listFiles.2.1 28 = .ok (.ifCond .eq 15, 3) := by decide +kernel
theorem d_Cr_listFiles_31 : decode m_Cr_listFiles.2.1 31 = .ok (.aload_n 0, 1) := by decide +kernel
theorem d_Cr_listFiles_32 : decode m_Cr_listFiles.2.1 32 = .ok (.getfield 31, 3) := by decide +kernel
theorem d_Cr_listFiles_35 : decode m_Cr_listFiles.2.1 35 = .ok (.bipush 12, 2) := by decide +kernel
theorem d_Cr_listFiles_37 : decode m_Cr_listFiles.2.1 37 = .ok (.iload_n 1, 1) := by decide +kernel
theorem d_Cr_listFiles_38 : decode m_Cr_listFiles.2.1 38 = .ok (.i2s, 1) := by decide +kernel
theorem d_Cr_listFiles_39 : decode m_Cr_listFiles.2.1 39 = .ok (.invokevirtual 93, 3) := by decide +kernel
theorem d_Cr_listFiles_42 : decode m_Cr_listFiles.2.1 42 = .ok (.pop, 1) := by decide +kernel
theorem d_Cr_listFiles_43 : decode m_Cr_listFiles.2.1 43 = .ok (.iinc 1 1, 3) := by decide +kernel
theorem d_Cr_listFiles_46 : decode m_Cr_listFiles.2.1 46 = .ok (.goto (-44), 3) := by decide +kernel
theorem d_Cr_listFiles_49 : decode m_Cr_listFiles.2.1 49 = .ok (.return_, 1) := by decide +kernel
end
section
/-! Rows that decode: laid by program. -/
theorem d_Mo_init_0 : decode m_Mo_init.2.1 0 = .ok (.aload_n 0, 1) := by decide +kernel
theorem d_Mo_init_1 : decode m_Mo_init.2.1 1 = .ok (.invokespecial 1, 3) := by decide +kernel
theorem d_Mo_init_4 : decode m_Mo_init.2.1 4 = .ok (.aload_n 0, 1) := by decide +kernel
theorem d_Mo_init_5 : decode m_Mo_init.2.1 5 = .ok (.bipush 12, 2) := by decide +kernel
theorem d_Mo_init_7 : decode m_Mo_init.2.1 7 = .ok (.newarray .int, 2) := by decide +kernel
theorem d_Mo_init_9 : decode m_Mo_init.2.1 9 = .ok (.putfield 7, 3) := by decide +kernel
theorem d_Mo_init_12 : decode m_Mo_init.2.1 12 = .ok (.aload_n 0, 1) := by decide +kernel
theorem d_Mo_init_13 : decode m_Mo_init.2.1 13 = .ok (.bipush 72, 2) := by decide +kernel
theorem d_Mo_init_15 : decode m_Mo_init.2.1 15 = .ok (.newarray .int, 2) := by decide +kernel
theorem d_Mo_init_17 : decode m_Mo_init.2.1 17 = .ok (.putfield 13, 3) := by decide +kernel
theorem d_Mo_init_20 : decode m_Mo_init.2.1 20 = .ok (.aload_n 0, 1) := by decide +kernel
theorem d_Mo_init_21 : decode m_Mo_init.2.1 21 = .ok (.bipush 12, 2) := by decide +kernel
theorem d_Mo_init_23 : decode m_Mo_init.2.1 23 = .ok (.newarray .int, 2) := by decide +kernel
theorem d_Mo_init_25 : decode m_Mo_init.2.1 25 = .ok (.putfield 16, 3) := by decide +kernel
theorem d_Mo_init_28 : decode m_Mo_init.2.1 28 = .ok (.aload_n 0, 1) := by decide +kernel
theorem d_Mo_init_29 : decode m_Mo_init.2.1 29 = .ok (.bipush 72, 2) := by decide +kernel
theorem d_Mo_init_31 : decode m_Mo_init.2.1 31 = .ok (.newarray .int, 2) := by decide +kernel
theorem d_Mo_init_33 : decode m_Mo_init.2.1 33 = .ok (.putfield 19, 3) := by decide +kernel
theorem d_Mo_init_36 : decode m_Mo_init.2.1 36 = .ok (.aload_n 0, 1) := by decide +kernel
theorem d_Mo_init_37 : decode m_Mo_init.2.1 37 = .ok (.bipush 12, 2) := by decide +kernel
theorem d_Mo_init_39 : decode m_Mo_init.2.1 39 = .ok (.newarray .int, 2) := by decide +kernel
theorem d_Mo_init_41 : decode m_Mo_init.2.1 41 = .ok (.putfield 22, 3) := by decide +kernel
theorem d_Mo_init_44 : decode m_Mo_init.2.1 44 = .ok (.aload_n 0, 1) := by decide +kernel
theorem d_Mo_init_45 : decode m_Mo_init.2.1 45 = .ok (.bipush 10, 2) := by decide +kernel
theorem d_Mo_init_47 : decode m_Mo_init.2.1 47 = .ok (.newarray .int, 2) := by decide +kernel
theorem d_Mo_init_49 : decode m_Mo_init.2.1 49 = .ok (.putfield 25, 3) := by decide +kernel
theorem d_Mo_init_52 : decode m_Mo_init.2.1 52 = .ok (.aload_n 0, 1) := by decide +kernel
theorem d_Mo_init_53 : decode m_Mo_init.2.1 53 = .ok (.bipush 120, 2) := by decide +kernel
theorem d_Mo_init_55 : decode m_Mo_init.2.1 55 = .ok (.newarray .int, 2) := by decide +kernel
theorem d_Mo_init_57 : decode m_Mo_init.2.1 57 = .ok (.putfield 28, 3) := by decide +kernel
theorem d_Mo_init_60 : decode m_Mo_init.2.1 60 = .ok (.aload_n 0, 1) := by decide +kernel
theorem d_Mo_init_61 : decode m_Mo_init.2.1 61 = .ok (.bipush 25, 2) := by decide +kernel
theorem d_Mo_init_63 : decode m_Mo_init.2.1 63 = .ok (.newarray .int, 2) := by decide +kernel
theorem d_Mo_init_65 : decode m_Mo_init.2.1 65 = .ok (.putfield 31, 3) := by decide +kernel
theorem d_Mo_init_68 : decode m_Mo_init.2.1 68 = .ok (.aload_n 0, 1) := by decide +kernel
theorem d_Mo_init_69 : decode m_Mo_init.2.1 69 = .ok (.sipush 300, 3) := by decide +kernel
theorem d_Mo_init_72 : decode m_Mo_init.2.1 72 = .ok (.newarray .int, 2) := by decide +kernel
theorem d_Mo_init_74 : decode m_Mo_init.2.1 74 = .ok (.putfield 34, 3) := by decide +kernel
theorem d_Mo_init_77 : decode m_Mo_init.2.1 77 = .ok (.aload_n 0, 1) := by decide +kernel
theorem d_Mo_init_78 : decode m_Mo_init.2.1 78 = .ok (.bipush 25, 2) := by decide +kernel
theorem d_Mo_init_80 : decode m_Mo_init.2.1 80 = .ok (.newarray .int, 2) := by decide +kernel
theorem d_Mo_init_82 : decode m_Mo_init.2.1 82 = .ok (.putfield 37, 3) := by decide +kernel
theorem d_Mo_init_85 : decode m_Mo_init.2.1 85 = .ok (.aload_n 0, 1) := by decide +kernel
theorem d_Mo_init_86 : decode m_Mo_init.2.1 86 = .ok (.bipush 25, 2) := by decide +kernel
theorem d_Mo_init_88 : decode m_Mo_init.2.1 88 = .ok (.newarray .int, 2) := by decide +kernel
theorem d_Mo_init_90 : decode m_Mo_init.2.1 90 = .ok (.putfield 40, 3) := by decide +kernel
theorem d_Mo_init_93 : decode m_Mo_init.2.1 93 = .ok (.aload_n 0, 1) := by decide +kernel
theorem d_Mo_init_94 : decode m_Mo_init.2.1 94 = .ok (.bipush 25, 2) := by decide +kernel
theorem d_Mo_init_96 : decode m_Mo_init.2.1 96 = .ok (.newarray .int, 2) := by decide +kernel
theorem d_Mo_init_98 : decode m_Mo_init.2.1 98 = .ok (.putfield 43, 3) := by decide +kernel
theorem d_Mo_init_101 : decode m_Mo_init.2.1 101 = .ok (.aload_n 0, 1) := by decide +kernel
theorem d_Mo_init_102 : decode m_Mo_init.2.1 102 = .ok (.sipush 300, 3) := by decide +kernel
theorem d_Mo_init_105 : decode m_Mo_init.2.1 105 = .ok (.newarray .int, 2) := by decide +kernel
theorem d_Mo_init_107 : decode m_Mo_init.2.1 107 = .ok (.putfield 46, 3) := by decide +kernel
theorem d_Mo_init_110 : decode m_Mo_init.2.1 110 = .ok (.aload_n 0, 1) := by decide +kernel
theorem d_Mo_init_111 : decode m_Mo_init.2.1 111 = .ok (.sipush 1800, 3) := by decide +kernel
theorem d_Mo_init_114 : decode m_Mo_init.2.1 114 = .ok (.newarray .int, 2) := by decide +kernel
theorem d_Mo_init_116 : decode m_Mo_init.2.1 116 = .ok (.putfield 49, 3) := by decide +kernel
theorem d_Mo_init_119 : decode m_Mo_init.2.1 119 = .ok (.aload_n 0, 1) := by decide +kernel
theorem d_Mo_init_120 : decode m_Mo_init.2.1 120 = .ok (.bipush 25, 2) := by decide +kernel
theorem d_Mo_init_122 : decode m_Mo_init.2.1 122 = .ok (.newarray .int, 2) := by decide +kernel
theorem d_Mo_init_124 : decode m_Mo_init.2.1 124 = .ok (.putfield 52, 3) := by decide +kernel
theorem d_Mo_init_127 : decode m_Mo_init.2.1 127 = .ok (.aload_n 0, 1) := by decide +kernel
theorem d_Mo_init_128 : decode m_Mo_init.2.1 128 = .ok (.bipush 25, 2) := by decide +kernel
theorem d_Mo_init_130 : decode m_Mo_init.2.1 130 = .ok (.newarray .int, 2) := by decide +kernel
theorem d_Mo_init_132 : decode m_Mo_init.2.1 132 = .ok (.putfield 55, 3) := by decide +kernel
theorem d_Mo_init_135 : decode m_Mo_init.2.1 135 = .ok (.aload_n 0, 1) := by decide +kernel
theorem d_Mo_init_136 : decode m_Mo_init.2.1 136 = .ok (.sipush 150, 3) := by decide +kernel
theorem d_Mo_init_139 : decode m_Mo_init.2.1 139 = .ok (.newarray .int, 2) := by decide +kernel
theorem d_Mo_init_141 : decode m_Mo_init.2.1 141 = .ok (.putfield 58, 3) := by decide +kernel
theorem d_Mo_init_144 : decode m_Mo_init.2.1 144 = .ok (.aload_n 0, 1) := by decide +kernel
theorem d_Mo_init_145 : decode m_Mo_init.2.1 145 = .ok (.bipush 6, 2) := by decide +kernel
theorem d_Mo_init_147 : decode m_Mo_init.2.1 147 = .ok (.newarray .int, 2) := by decide +kernel
theorem d_Mo_init_149 : decode m_Mo_init.2.1 149 = .ok (.putfield 61, 3) := by decide +kernel
theorem d_Mo_init_152 : decode m_Mo_init.2.1 152 = .ok (.aload_n 0, 1) := by decide +kernel
theorem d_Mo_init_153 : decode m_Mo_init.2.1 153 = .ok (.bipush 10, 2) := by decide +kernel
theorem d_Mo_init_155 : decode m_Mo_init.2.1 155 = .ok (.newarray .boolean, 2) := by decide +kernel
theorem d_Mo_init_157 : decode m_Mo_init.2.1 157 = .ok (.putfield 64, 3) := by decide +kernel
theorem d_Mo_init_160 : decode m_Mo_init.2.1 160 = .ok (.aload_n 0, 1) := by decide +kernel
theorem d_Mo_init_161 : decode m_Mo_init.2.1 161 = .ok (.bipush 10, 2) := by decide +kernel
theorem d_Mo_init_163 : decode m_Mo_init.2.1 163 = .ok (.newarray .boolean, 2) := by decide +kernel
theorem d_Mo_init_165 : decode m_Mo_init.2.1 165 = .ok (.putfield 68, 3) := by decide +kernel
theorem d_Mo_init_168 : decode m_Mo_init.2.1 168 = .ok (.aload_n 0, 1) := by decide +kernel
theorem d_Mo_init_169 : decode m_Mo_init.2.1 169 = .ok (.bipush 10, 2) := by decide +kernel
theorem d_Mo_init_171 : decode m_Mo_init.2.1 171 = .ok (.newarray .int, 2) := by decide +kernel
theorem d_Mo_init_173 : decode m_Mo_init.2.1 173 = .ok (.putfield 71, 3) := by decide +kernel
theorem d_Mo_init_176 : decode m_Mo_init.2.1 176 = .ok (.aload_n 0, 1) := by decide +kernel
theorem d_Mo_init_177 : decode m_Mo_init.2.1 177 = .ok (.bipush 10, 2) := by decide +kernel
theorem d_Mo_init_179 : decode m_Mo_init.2.1 179 = .ok (.newarray .int, 2) := by decide +kernel
theorem d_Mo_init_181 : decode m_Mo_init.2.1 181 = .ok (.putfield 74, 3) := by decide +kernel
theorem d_Mo_init_184 : decode m_Mo_init.2.1 184 = .ok (.aload_n 0, 1) := by decide +kernel
theorem d_Mo_init_185 : decode m_Mo_init.2.1 185 = .ok (.bipush 10, 2) := by decide +kernel
theorem d_Mo_init_187 : decode m_Mo_init.2.1 187 = .ok (.newarray .int, 2) := by decide +kernel
theorem d_Mo_init_189 : decode m_Mo_init.2.1 189 = .ok (.putfield 77, 3) := by decide +kernel
theorem d_Mo_init_192 : decode m_Mo_init.2.1 192 = .ok (.aload_n 0, 1) := by decide +kernel
theorem d_Mo_init_193 : decode m_Mo_init.2.1 193 = .ok (.bipush 10, 2) := by decide +kernel
theorem d_Mo_init_195 : decode m_Mo_init.2.1 195 = .ok (.newarray .int, 2) := by decide +kernel
theorem d_Mo_init_197 : decode m_Mo_init.2.1 197 = .ok (.putfield 80, 3) := by decide +kernel
theorem d_Mo_init_200 : decode m_Mo_init.2.1 200 = .ok (.aload_n 0, 1) := by decide +kernel
theorem d_Mo_init_201 : decode m_Mo_init.2.1 201 = .ok (.bipush 10, 2) := by decide +kernel
theorem d_Mo_init_203 : decode m_Mo_init.2.1 203 = .ok (.newarray .int, 2) := by decide +kernel
theorem d_Mo_init_205 : decode m_Mo_init.2.1 205 = .ok (.putfield 83, 3) := by decide +kernel
theorem d_Mo_init_208 : decode m_Mo_init.2.1 208 = .ok (.aload_n 0, 1) := by decide +kernel
theorem d_Mo_init_209 : decode m_Mo_init.2.1 209 = .ok (.bipush 10, 2) := by decide +kernel
theorem d_Mo_init_211 : decode m_Mo_init.2.1 211 = .ok (.newarray .boolean, 2) := by decide +kernel
theorem d_Mo_init_213 : decode m_Mo_init.2.1 213 = .ok (.putfield 86, 3) := by decide +kernel
theorem d_Mo_init_216 : decode m_Mo_init.2.1 216 = .ok (.iconst 0, 1) := by decide +kernel
theorem d_Mo_init_217 : decode m_Mo_init.2.1 217 = .ok (.istore_n 1, 1) := by decide +kernel
theorem d_Mo_init_218 : decode m_Mo_init.2.1 218 = .ok (.iload_n 1, 1) := by decide +kernel
theorem d_Mo_init_219 : decode m_Mo_init.2.1 219 = .ok (.bipush 12, 2) := by decide +kernel
theorem d_Mo_init_221 : decode m_Mo_init.2.1 221 = .ok (.if_icmp .ge 16, 3) := by decide +kernel
theorem d_Mo_init_224 : decode m_Mo_init.2.1 224 = .ok (.aload_n 0, 1) := by decide +kernel
theorem d_Mo_init_225 : decode m_Mo_init.2.1 225 = .ok (.getfield 7, 3) := by decide +kernel
theorem d_Mo_init_228 : decode m_Mo_init.2.1 228 = .ok (.iload_n 1, 1) := by decide +kernel
theorem d_Mo_init_229 : decode m_Mo_init.2.1 229 = .ok (.iconst (-1), 1) := by decide +kernel
theorem d_Mo_init_230 : decode m_Mo_init.2.1 230 = .ok (.iastore, 1) := by decide +kernel
theorem d_Mo_init_231 : decode m_Mo_init.2.1 231 = .ok (.iinc 1 1, 3) := by decide +kernel
theorem d_Mo_init_234 : decode m_Mo_init.2.1 234 = .ok (.goto (-16), 3) := by decide +kernel
theorem d_Mo_init_237 : decode m_Mo_init.2.1 237 = .ok (.return_, 1) := by decide +kernel
theorem d_Mo_thrown_0 : decode m_Mo_thrown.2.1 0 = .ok (.aload_n 0, 1) := by decide +kernel
theorem d_Mo_thrown_1 : decode m_Mo_thrown.2.1 1 = .ok (.getfield 89, 3) := by decide +kernel
theorem d_Mo_thrown_4 : decode m_Mo_thrown.2.1 4 = .ok (.ireturn, 1) := by decide +kernel
theorem d_Mo_type_0 : decode m_Mo_type.2.1 0 = .ok (.aload_n 0, 1) := by decide +kernel
theorem d_Mo_type_1 : decode m_Mo_type.2.1 1 = .ok (.iconst 0, 1) := by decide +kernel
theorem d_Mo_type_2 : decode m_Mo_type.2.1 2 = .ok (.putfield 89, 3) := by decide +kernel
theorem d_Mo_type_5 : decode m_Mo_type.2.1 5 = .ok (.aload_n 0, 1) := by decide +kernel
theorem d_Mo_type_6 : decode m_Mo_type.2.1 6 = .ok (.getfield 93, 3) := by decide +kernel
theorem d_Mo_type_9 : decode m_Mo_type.2.1 9 = .ok (.bipush 12, 2) := by decide +kernel
theorem d_Mo_type_11 : decode m_Mo_type.2.1 11 = .ok (.if_icmp .ne 5, 3) := by decide +kernel
theorem d_Mo_type_14 : decode m_Mo_type.2.1 14 = .ok (.iconst 0, 1) := by decide +kernel
theorem d_Mo_type_15 : decode m_Mo_type.2.1 15 = .ok (.ireturn, 1) := by decide +kernel
theorem d_Mo_type_16 : decode m_Mo_type.2.1 16 = .ok (.aload_n 0, 1) := by decide +kernel
theorem d_Mo_type_17 : decode m_Mo_type.2.1 17 = .ok (.getfield 22, 3) := by decide +kernel
theorem d_Mo_type_20 : decode m_Mo_type.2.1 20 = .ok (.aload_n 0, 1) := by decide +kernel
theorem d_Mo_type_21 : decode m_Mo_type.2.1 21 = .ok (.getfield 93, 3) := by decide +kernel
theorem d_Mo_type_24 : decode m_Mo_type.2.1 24 = .ok (.iload_n 1, 1) := by decide +kernel
theorem d_Mo_type_25 : decode m_Mo_type.2.1 25 = .ok (.iastore, 1) := by decide +kernel
theorem d_Mo_type_26 : decode m_Mo_type.2.1 26 = .ok (.aload_n 0, 1) := by decide +kernel
theorem d_Mo_type_27 : decode m_Mo_type.2.1 27 = .ok (.dup, 1) := by decide +kernel
theorem d_Mo_type_28 : decode m_Mo_type.2.1 28 = .ok (.getfield 93, 3) := by decide +kernel
theorem d_Mo_type_31 : decode m_Mo_type.2.1 31 = .ok (.iconst 1, 1) := by decide +kernel
theorem d_Mo_type_32 : decode m_Mo_type.2.1 32 = .ok (.iadd, 1) := by decide +kernel
theorem d_Mo_type_33 : decode m_Mo_type.2.1 33 = .ok (.putfield 93, 3) := by decide +kernel
theorem d_Mo_type_36 : decode m_Mo_type.2.1 36 = .ok (.iconst 1, 1) := by decide +kernel
theorem d_Mo_type_37 : decode m_Mo_type.2.1 37 = .ok (.ireturn, 1) := by decide +kernel
theorem d_Mo_command_0 : decode m_Mo_command.2.1 0 = .ok (.aload_n 0, 1) := by decide +kernel
theorem d_Mo_command_1 : decode m_Mo_command.2.1 1 = .ok (.iconst 0, 1) := by decide +kernel
theorem d_Mo_command_2 : decode m_Mo_command.2.1 2 = .ok (.putfield 89, 3) := by decide +kernel
theorem d_Mo_command_5 : decode m_Mo_command.2.1 5 = .ok (.aload_n 0, 1) := by decide +kernel
theorem d_Mo_command_6 : decode m_Mo_command.2.1 6 = .ok (.invokevirtual 118, 3) := by decide +kernel
theorem d_Mo_command_9 : decode m_Mo_command.2.1 9 = .ok (.ifCond .ne 14, 3) := by decide +kernel
theorem d_Mo_command_12 : decode m_Mo_command.2.1 12 = .ok (.aload_n 0, 1) := by decide +kernel
theorem d_Mo_command_13 : decode m_Mo_command.2.1 13 = .ok (.iconst 0, 1) := by decide +kernel
theorem d_Mo_command_14 : decode m_Mo_command.2.1 14 = .ok (.putfield 93, 3) := by decide +kernel
theorem d_Mo_command_17 : decode m_Mo_command.2.1 17 = .ok (.aload_n 0, 1) := by decide +kernel
theorem d_Mo_command_18 : decode m_Mo_command.2.1 18 = .ok (.iconst 1, 1) := by decide +kernel
theorem d_Mo_command_19 : decode m_Mo_command.2.1 19 = .ok (.invokevirtual 122, 3) := by decide +kernel
theorem d_Mo_command_22 : decode m_Mo_command.2.1 22 = .ok (.ireturn, 1) := by decide +kernel
theorem d_Mo_command_23 : decode m_Mo_command.2.1 23 = .ok (.aload_n 0, 1) := by decide +kernel
theorem d_Mo_command_24 : decode m_Mo_command.2.1 24 = .ok (.getfield 125, 3) := by decide +kernel
theorem d_Mo_command_27 : decode m_Mo_command.2.1 27 = .ok (.bipush 10, 2) := by decide +kernel
theorem d_Mo_command_29 : decode m_Mo_command.2.1 29 = .ok (.if_icmp .ne 9, 3) := by decide +kernel
theorem d_Mo_command_32 : decode m_Mo_command.2.1 32 = .ok (.aload_n 0, 1) := by decide +kernel
theorem d_Mo_command_33 : decode m_Mo_command.2.1 33 = .ok (.iconst 2, 1) := by decide +kernel
theorem d_Mo_command_34 : decode m_Mo_command.2.1 34 = .ok (.invokevirtual 122, 3) := by decide +kernel
theorem d_Mo_command_37 : decode m_Mo_command.2.1 37 = .ok (.ireturn, 1) := by decide +kernel
theorem d_Mo_command_38 : decode m_Mo_command.2.1 38 = .ok (.aload_n 0, 1) := by decide +kernel
theorem d_Mo_command_39 : decode m_Mo_command.2.1 39 = .ok (.aload_n 0, 1) := by decide +kernel
theorem d_Mo_command_40 : decode m_Mo_command.2.1 40 = .ok (.getfield 125, 3) := by decide +kernel
theorem d_Mo_command_43 : decode m_Mo_command.2.1 43 = .ok (.invokevirtual 128, 3) := by decide +kernel
theorem d_Mo_command_46 : decode m_Mo_command.2.1 46 = .ok (.aload_n 0, 1) := by decide +kernel
theorem d_Mo_command_47 : decode m_Mo_command.2.1 47 = .ok (.dup, 1) := by decide +kernel
theorem d_Mo_command_48 : decode m_Mo_command.2.1 48 = .ok (.getfield 125, 3) := by decide +kernel
theorem d_Mo_command_51 : decode m_Mo_command.2.1 51 = .ok (.iconst 1, 1) := by decide +kernel
theorem d_Mo_command_52 : decode m_Mo_command.2.1 52 = .ok (.iadd, 1) := by decide +kernel
theorem d_Mo_command_53 : decode m_Mo_command.2.1 53 = .ok (.putfield 125, 3) := by decide +kernel
theorem d_Mo_command_56 : decode m_Mo_command.2.1 56 = .ok (.aload_n 0, 1) := by decide +kernel
theorem d_Mo_command_57 : decode m_Mo_command.2.1 57 = .ok (.getfield 125, 3) := by decide +kernel
theorem d_Mo_command_60 : decode m_Mo_command.2.1 60 = .ok (.iconst 1, 1) := by decide +kernel
theorem d_Mo_command_61 : decode m_Mo_command.2.1 61 = .ok (.isub, 1) := by decide +kernel
theorem d_Mo_command_62 : decode m_Mo_command.2.1 62 = .ok (.ireturn, 1) := by decide +kernel
theorem d_Mo_isCommand_0 : decode m_Mo_isCommand.2.1 0 = .ok (.iconst 0, 1) := by decide +kernel
theorem d_Mo_isCommand_1 : decode m_Mo_isCommand.2.1 1 = .ok (.istore_n 1, 1) := by decide +kernel
theorem d_Mo_isCommand_2 : decode m_Mo_isCommand.2.1 2 = .ok (.iload_n 1, 1) := by decide +kernel
theorem d_Mo_isCommand_3 : decode m_Mo_isCommand.2.1 3 = .ok (.aload_n 0, 1) := by decide +kernel
theorem d_Mo_isCommand_4 : decode m_Mo_isCommand.2.1 4 = .ok (.getfield 93, 3) := by decide +kernel
theorem d_Mo_isCommand_7 : decode m_Mo_isCommand.2.1 7 = .ok (.if_icmp .ge 32, 3) := by decide +kernel
theorem d_Mo_isCommand_10 : decode m_Mo_isCommand.2.1 10 = .ok (.aload_n 0, 1) := by decide +kernel
theorem d_Mo_isCommand_11 : decode m_Mo_isCommand.2.1 11 = .ok (.getfield 22, 3) := by decide +kernel
theorem d_Mo_isCommand_14 : decode m_Mo_isCommand.2.1 14 = .ok (.iload_n 1, 1) := by decide +kernel
theorem d_Mo_isCommand_15 : decode m_Mo_isCommand.2.1 15 = .ok (.iaload, 1) := by decide +kernel
theorem d_Mo_isCommand_16 : decode m_Mo_isCommand.2.1 16 = .ok (.bipush 63, 2) := by decide +kernel
theorem d_Mo_isCommand_18 : decode m_Mo_isCommand.2.1 18 = .ok (.if_icmp .ne 21, 3) := by decide +kernel
theorem d_Mo_isCommand_21 : decode m_Mo_isCommand.2.1 21 = .ok (.aload_n 0, 1) := by decide +kernel
theorem d_Mo_isCommand_22 : decode m_Mo_isCommand.2.1 22 = .ok (.iload_n 1, 1) := by decide +kernel
theorem d_Mo_isCommand_23 : decode m_Mo_isCommand.2.1 23 = .ok (.iconst 1, 1) := by decide +kernel
theorem d_Mo_isCommand_24 : decode m_Mo_isCommand.2.1 24 = .ok (.iadd, 1) := by decide +kernel
theorem d_Mo_isCommand_25 : decode m_Mo_isCommand.2.1 25 = .ok (.invokevirtual 100, 3) := by decide +kernel
theorem d_Mo_isCommand_28 : decode m_Mo_isCommand.2.1 28 = .ok (.ifCond .ge 5, 3) := by decide +kernel
theorem d_Mo_isCommand_31 : decode m_Mo_isCommand.2.1 31 = .ok (.iconst 0, 1) := by decide +kernel
theorem d_Mo_isCommand_32 : decode m_Mo_isCommand.2.1 32 = .ok (.ireturn, 1) := by decide +kernel
theorem d_Mo_isCommand_33 : decode m_Mo_isCommand.2.1 33 = .ok (.iinc 1 2, 3) := by decide +kernel
theorem d_Mo_isCommand_36 : decode m_Mo_isCommand.2.1 36 = .ok (.goto (-34), 3) := by decide +kernel
theorem d_Mo_isCommand_39 : decode m_Mo_isCommand.2.1 39 = .ok (.iload_n 1, 1) := by decide +kernel
theorem d_Mo_isCommand_40 : decode m_Mo_isCommand.2.1 40 = .ok (.aload_n 0, 1) := by decide +kernel
theorem d_Mo_isCommand_41 : decode m_Mo_isCommand.2.1 41 = .ok (.getfield 93, 3) := by decide +kernel
theorem d_Mo_isCommand_44 : decode m_Mo_isCommand.2.1 44 = .ok (.if_icmp .lt 5, 3) := by decide +kernel
theorem d_Mo_isCommand_47 : decode m_Mo_isCommand.2.1 47 = .ok (.iconst 0, 1) := by decide +kernel
theorem d_Mo_isCommand_48 : decode m_Mo_isCommand.2.1 48 = .ok (.ireturn, 1) := by decide +kernel
theorem d_Mo_isCommand_49 : decode m_Mo_isCommand.2.1 49 = .ok (.aload_n 0, 1) := by decide +kernel
theorem d_Mo_isCommand_50 : decode m_Mo_isCommand.2.1 50 = .ok (.getfield 22, 3) := by decide +kernel
theorem d_Mo_isCommand_53 : decode m_Mo_isCommand.2.1 53 = .ok (.iload_n 1, 1) := by decide +kernel
theorem d_Mo_isCommand_54 : decode m_Mo_isCommand.2.1 54 = .ok (.iaload, 1) := by decide +kernel
theorem d_Mo_isCommand_55 : decode m_Mo_isCommand.2.1 55 = .ok (.lookupswitch 143 #[(43, 90), (99, 81), (102, 99), (106, 90), (108, 126), (110, 135), (112, 81), (115, 81), (120, 126)], 81) := by decide +kernel
theorem d_Mo_isCommand_136 : decode m_Mo_isCommand.2.1 136 = .ok (.aload_n 0, 1) := by decide +kernel
theorem d_Mo_isCommand_137 : decode m_Mo_isCommand.2.1 137 = .ok (.iload_n 1, 1) := by decide +kernel
theorem d_Mo_isCommand_138 : decode m_Mo_isCommand.2.1 138 = .ok (.iconst 1, 1) := by decide +kernel
theorem d_Mo_isCommand_139 : decode m_Mo_isCommand.2.1 139 = .ok (.iadd, 1) := by decide +kernel
theorem d_Mo_isCommand_140 : decode m_Mo_isCommand.2.1 140 = .ok (.iconst 2, 1) := by decide +kernel
theorem d_Mo_isCommand_141 : decode m_Mo_isCommand.2.1 141 = .ok (.invokevirtual 104, 3) := by decide +kernel
theorem d_Mo_isCommand_144 : decode m_Mo_isCommand.2.1 144 = .ok (.ireturn, 1) := by decide +kernel
theorem d_Mo_isCommand_145 : decode m_Mo_isCommand.2.1 145 = .ok (.aload_n 0, 1) := by decide +kernel
theorem d_Mo_isCommand_146 : decode m_Mo_isCommand.2.1 146 = .ok (.iload_n 1, 1) := by decide +kernel
theorem d_Mo_isCommand_147 : decode m_Mo_isCommand.2.1 147 = .ok (.iconst 1, 1) := by decide +kernel
theorem d_Mo_isCommand_148 : decode m_Mo_isCommand.2.1 148 = .ok (.iadd, 1) := by decide +kernel
theorem d_Mo_isCommand_149 : decode m_Mo_isCommand.2.1 149 = .ok (.iconst 3, 1) := by decide +kernel
theorem d_Mo_isCommand_150 : decode m_Mo_isCommand.2.1 150 = .ok (.invokevirtual 104, 3) := by decide +kernel
theorem d_Mo_isCommand_153 : decode m_Mo_isCommand.2.1 153 = .ok (.ireturn, 1) := by decide +kernel
theorem d_Mo_isCommand_154 : decode m_Mo_isCommand.2.1 154 = .ok (.aload_n 0, 1) := by decide +kernel
theorem d_Mo_isCommand_155 : decode m_Mo_isCommand.2.1 155 = .ok (.iload_n 1, 1) := by decide +kernel
theorem d_Mo_isCommand_156 : decode m_Mo_isCommand.2.1 156 = .ok (.iconst 1, 1) := by decide +kernel
theorem d_Mo_isCommand_157 : decode m_Mo_isCommand.2.1 157 = .ok (.iadd, 1) := by decide +kernel
theorem d_Mo_isCommand_158 : decode m_Mo_isCommand.2.1 158 = .ok (.invokevirtual 108, 3) := by decide +kernel
theorem d_Mo_isCommand_161 : decode m_Mo_isCommand.2.1 161 = .ok (.ifCond .eq 18, 3) := by decide +kernel
theorem d_Mo_isCommand_164 : decode m_Mo_isCommand.2.1 164 = .ok (.aload_n 0, 1) := by decide +kernel
theorem d_Mo_isCommand_165 : decode m_Mo_isCommand.2.1 165 = .ok (.iload_n 1, 1) := by decide +kernel
theorem d_Mo_isCommand_166 : decode m_Mo_isCommand.2.1 166 = .ok (.iconst 2, 1) := by decide +kernel
theorem d_Mo_isCommand_167 : decode m_Mo_isCommand.2.1 167 = .ok (.iadd, 1) := by decide +kernel
theorem d_Mo_isCommand_168 : decode m_Mo_isCommand.2.1 168 = .ok (.iconst 2, 1) := by decide +kernel
theorem d_Mo_isCommand_169 : decode m_Mo_isCommand.2.1 169 = .ok (.invokevirtual 104, 3) := by decide +kernel
theorem d_Mo_isCommand_172 : decode m_Mo_isCommand.2.1 172 = .ok (.ifCond .eq 7, 3) := by decide +kernel
theorem d_Mo_isCommand_175 : decode m_Mo_isCommand.2.1 175 = .ok (.iconst 1, 1) := by decide +kernel
theorem d_Mo_isCommand_176 : decode m_Mo_isCommand.2.1 176 = .ok (.goto 4, 3) := by decide +kernel
theorem d_Mo_isCommand_179 : decode m_Mo_isCommand.2.1 179 = .ok (.iconst 0, 1) := by decide +kernel
theorem d_Mo_isCommand_180 : decode m_Mo_isCommand.2.1 180 = .ok (.ireturn, 1) := by decide +kernel
theorem d_Mo_isCommand_181 : decode m_Mo_isCommand.2.1 181 = .ok (.aload_n 0, 1) := by decide +kernel
theorem d_Mo_isCommand_182 : decode m_Mo_isCommand.2.1 182 = .ok (.iload_n 1, 1) := by decide +kernel
theorem d_Mo_isCommand_183 : decode m_Mo_isCommand.2.1 183 = .ok (.iconst 1, 1) := by decide +kernel
theorem d_Mo_isCommand_184 : decode m_Mo_isCommand.2.1 184 = .ok (.iadd, 1) := by decide +kernel
theorem d_Mo_isCommand_185 : decode m_Mo_isCommand.2.1 185 = .ok (.iconst 1, 1) := by decide +kernel
theorem d_Mo_isCommand_186 : decode m_Mo_isCommand.2.1 186 = .ok (.invokevirtual 104, 3) := by decide +kernel
theorem d_Mo_isCommand_189 : decode m_Mo_isCommand.2.1 189 = .ok (.ireturn, 1) := by decide +kernel
theorem d_Mo_isCommand_190 : decode m_Mo_isCommand.2.1 190 = .ok (.aload_n 0, 1) := by decide +kernel
theorem d_Mo_isCommand_191 : decode m_Mo_isCommand.2.1 191 = .ok (.iload_n 1, 1) := by decide +kernel
theorem d_Mo_isCommand_192 : decode m_Mo_isCommand.2.1 192 = .ok (.iconst 1, 1) := by decide +kernel
theorem d_Mo_isCommand_193 : decode m_Mo_isCommand.2.1 193 = .ok (.iadd, 1) := by decide +kernel
theorem d_Mo_isCommand_194 : decode m_Mo_isCommand.2.1 194 = .ok (.invokevirtual 111, 3) := by decide +kernel
theorem d_Mo_isCommand_197 : decode m_Mo_isCommand.2.1 197 = .ok (.ireturn, 1) := by decide +kernel
theorem d_Mo_isCommand_198 : decode m_Mo_isCommand.2.1 198 = .ok (.iconst 0, 1) := by decide +kernel
theorem d_Mo_isCommand_199 : decode m_Mo_isCommand.2.1 199 = .ok (.ireturn, 1) := by decide +kernel
theorem d_Mo_fileAt_0 : decode m_Mo_fileAt.2.1 0 = .ok (.iload_n 1, 1) := by decide +kernel
theorem d_Mo_fileAt_1 : decode m_Mo_fileAt.2.1 1 = .ok (.aload_n 0, 1) := by decide +kernel
theorem d_Mo_fileAt_2 : decode m_Mo_fileAt.2.1 2 = .ok (.getfield 93, 3) := by decide +kernel
theorem d_Mo_fileAt_5 : decode m_Mo_fileAt.2.1 5 = .ok (.if_icmp .ge 15, 3) := by decide +kernel
theorem d_Mo_fileAt_8 : decode m_Mo_fileAt.2.1 8 = .ok (.aload_n 0, 1) := by decide +kernel
theorem d_Mo_fileAt_9 : decode m_Mo_fileAt.2.1 9 = .ok (.getfield 22, 3) := by decide +kernel
theorem d_Mo_fileAt_12 : decode m_Mo_fileAt.2.1 12 = .ok (.iload_n 1, 1) := by decide +kernel
theorem d_Mo_fileAt_13 : decode m_Mo_fileAt.2.1 13 = .ok (.iaload, 1) := by decide +kernel
theorem d_Mo_fileAt_14 : decode m_Mo_fileAt.2.1 14 = .ok (.bipush 97, 2) := by decide +kernel
theorem d_Mo_fileAt_16 : decode m_Mo_fileAt.2.1 16 = .ok (.isub, 1) := by decide +kernel
theorem d_Mo_fileAt_17 : decode m_Mo_fileAt.2.1 17 = .ok (.goto 4, 3) := by decide +kernel
theorem d_Mo_fileAt_20 : decode m_Mo_fileAt.2.1 20 = .ok (.iconst (-1), 1) := by decide +kernel
theorem d_Mo_fileAt_21 : decode m_Mo_fileAt.2.1 21 = .ok (.istore_n 2, 1) := by decide +kernel
theorem d_Mo_fileAt_22 : decode m_Mo_fileAt.2.1 22 = .ok (.iload_n 2, 1) := by decide +kernel
theorem d_Mo_fileAt_23 : decode m_Mo_fileAt.2.1 23 = .ok (.invokestatic 96, 3) := by decide +kernel
theorem d_Mo_fileAt_26 : decode m_Mo_fileAt.2.1 26 = .ok (.ifCond .eq 7, 3) := by decide +kernel
theorem d_Mo_fileAt_29 : decode m_Mo_fileAt.2.1 29 = .ok (.iload_n 2, 1) := by decide +kernel
theorem d_Mo_fileAt_30 : decode m_Mo_fileAt.2.1 30 = .ok (.goto 4, 3) := by decide +kernel
theorem d_Mo_fileAt_33 : decode m_Mo_fileAt.2.1 33 = .ok (.iconst (-1), 1) := by decide +kernel
theorem d_Mo_fileAt_34 : decode m_Mo_fileAt.2.1 34 = .ok (.ireturn, 1) := by decide +kernel
theorem d_Mo_isFile_0 : decode m_Mo_isFile.2.1 0 = .ok (.iload_n 0, 1) := by decide +kernel
theorem d_Mo_isFile_1 : decode m_Mo_isFile.2.1 1 = .ok (.ifCond .lt 13, 3) := by decide +kernel
theorem d_Mo_isFile_4 : decode m_Mo_isFile.2.1 4 = .ok (.iload_n 0, 1) := by decide +kernel
theorem d_Mo_isFile_5 : decode m_Mo_isFile.2.1 5 = .ok (.bipush 12, 2) := by decide +kernel
theorem d_Mo_isFile_7 : decode m_Mo_isFile.2.1 7 = .ok (.if_icmp .ge 7, 3) := by decide +kernel
theorem d_Mo_isFile_10 : decode m_Mo_isFile.2.1 10 = .ok (.iconst 1, 1) := by decide +kernel
theorem d_Mo_isFile_11 : decode m_Mo_isFile.2.1 11 = .ok (.goto 4, 3) := by decide +kernel
theorem d_Mo_isFile_14 : decode m_Mo_isFile.2.1 14 = .ok (.iconst 0, 1) := by decide +kernel
theorem d_Mo_isFile_15 : decode m_Mo_isFile.2.1 15 = .ok (.ireturn, 1) := by decide +kernel
theorem d_Mo_files_0 : decode m_Mo_files.2.1 0 = .ok (.aload_n 0, 1) := by decide +kernel
theorem d_Mo_files_1 : decode m_Mo_files.2.1 1 = .ok (.getfield 93, 3) := by decide +kernel
theorem d_Mo_files_4 : decode m_Mo_files.2.1 4 = .ok (.iload_n 1, 1) := by decide +kernel
theorem d_Mo_files_5 : decode m_Mo_files.2.1 5 = .ok (.iload_n 2, 1) := by decide +kernel
theorem d_Mo_files_6 : decode m_Mo_files.2.1 6 = .ok (.iadd, 1) := by decide +kernel
theorem d_Mo_files_7 : decode m_Mo_files.2.1 7 = .ok (.if_icmp .ne 7, 3) := by decide +kernel
theorem d_Mo_files_10 : decode m_Mo_files.2.1 10 = .ok (.iconst 1, 1) := by decide +kernel
theorem d_Mo_files_11 : decode m_Mo_files.2.1 11 = .ok (.goto 4, 3) := by decide +kernel
theorem d_Mo_files_14 : decode m_Mo_files.2.1 14 = .ok (.iconst 0, 1) := by decide +kernel
theorem d_Mo_files_15 : decode m_Mo_files.2.1 15 = .ok (.istore_n 3, 1) := by decide +kernel
theorem d_Mo_files_16 : decode m_Mo_files.2.1 16 = .ok (.iload_n 1, 1) := by decide +kernel
theorem d_Mo_files_17 : decode m_Mo_files.2.1 17 = .ok (.istore 4, 2) := by decide +kernel
theorem d_Mo_files_19 : decode m_Mo_files.2.1 19 = .ok (.iload 4, 2) := by decide +kernel
theorem d_Mo_files_21 : decode m_Mo_files.2.1 21 = .ok (.iload_n 1, 1) := by decide +kernel
theorem d_Mo_files_22 : decode m_Mo_files.2.1 22 = .ok (.iload_n 2, 1) := by decide +kernel
theorem d_Mo_files_23 : decode m_Mo_files.2.1 23 = .ok (.iadd, 1) := by decide +kernel
theorem d_Mo_files_24 : decode m_Mo_files.2.1 24 = .ok (.if_icmp .ge 28, 3) := by decide +kernel
theorem d_Mo_files_27 : decode m_Mo_files.2.1 27 = .ok (.iload_n 3, 1) := by decide +kernel
theorem d_Mo_files_28 : decode m_Mo_files.2.1 28 = .ok (.ifCond .eq 16, 3) := by decide +kernel
theorem d_Mo_files_31 : decode m_Mo_files.2.1 31 = .ok (.aload_n 0, 1) := by decide +kernel
theorem d_Mo_files_32 : decode m_Mo_files.2.1 32 = .ok (.iload 4, 2) := by decide +kernel
theorem d_Mo_files_34 : decode m_Mo_files.2.1 34 = .ok (.invokevirtual 100, 3) := by decide +kernel
theorem d_Mo_files_37 : decode m_Mo_files.2.1 37 = .ok (.ifCond .lt 7, 3) := by decide +kernel
theorem d_Mo_files_40 : decode m_Mo_files.2.1 40 = .ok (.iconst 1, 1) := by decide +kernel
theorem d_Mo_files_41 : decode m_Mo_files.2.1 41 = .ok (.goto 4, 3) := by decide +kernel
theorem d_Mo_files_44 : decode m_Mo_files.2.1 44 = .ok (.iconst 0, 1) := by decide +kernel
theorem d_Mo_files_45 : decode m_Mo_files.2.1 45 = .ok (.istore_n 3, 1) := by decide +kernel
theorem d_Mo_files_46 : decode m_Mo_files.2.1 46 = .ok (.iinc 4 1, 3) := by decide +kernel
theorem d_Mo_files_49 : decode m_Mo_files.2.1 49 = .ok (.goto (-30), 3) := by decide +kernel
theorem d_Mo_files_52 : decode m_Mo_files.2.1 52 = .ok (.iload_n 3, 1) := by decide +kernel
theorem d_Mo_files_53 : decode m_Mo_files.2.1 53 = .ok (.ireturn, 1) := by decide +kernel
theorem d_Mo_isDigit_0 : decode m_Mo_isDigit.2.1 0 = .ok (.iload_n 1, 1) := by decide +kernel
theorem d_Mo_isDigit_1 : decode m_Mo_isDigit.2.1 1 = .ok (.aload_n 0, 1) := by decide +kernel
theorem d_Mo_isDigit_2 : decode m_Mo_isDigit.2.1 2 = .ok (.getfield 93, 3) := by decide +kernel
theorem d_Mo_isDigit_5 : decode m_Mo_isDigit.2.1 5 = .ok (.if_icmp .ge 29, 3) := by decide +kernel
theorem d_Mo_isDigit_8 : decode m_Mo_isDigit.2.1 8 = .ok (.aload_n 0, 1) := by decide +kernel
theorem d_Mo_isDigit_9 : decode m_Mo_isDigit.2.1 9 = .ok (.getfield 22, 3) := by decide +kernel
theorem d_Mo_isDigit_12 : decode m_Mo_isDigit.2.1 12 = .ok (.iload_n 1, 1) := by decide +kernel
theorem d_Mo_isDigit_13 : decode m_Mo_isDigit.2.1 13 = .ok (.iaload, 1) := by decide +kernel
theorem d_Mo_isDigit_14 : decode m_Mo_isDigit.2.1 14 = .ok (.bipush 49, 2) := by decide +kernel
theorem d_Mo_isDigit_16 : decode m_Mo_isDigit.2.1 16 = .ok (.if_icmp .lt 18, 3) := by decide +kernel
theorem d_Mo_isDigit_19 : decode m_Mo_isDigit.2.1 19 = .ok (.aload_n 0, 1) := by decide +kernel
theorem d_Mo_isDigit_20 : decode m_Mo_isDigit.2.1 20 = .ok (.getfield 22, 3) := by decide +kernel
theorem d_Mo_isDigit_23 : decode m_Mo_isDigit.2.1 23 = .ok (.iload_n 1, 1) := by decide +kernel
theorem d_Mo_isDigit_24 : decode m_Mo_isDigit.2.1 24 = .ok (.iaload, 1) := by decide +kernel
theorem d_Mo_isDigit_25 : decode m_Mo_isDigit.2.1 25 = .ok (.bipush 57, 2) := by decide +kernel
theorem d_Mo_isDigit_27 : decode m_Mo_isDigit.2.1 27 = .ok (.if_icmp .gt 7, 3) := by decide +kernel
theorem d_Mo_isDigit_30 : decode m_Mo_isDigit.2.1 30 = .ok (.iconst 1, 1) := by decide +kernel
theorem d_Mo_isDigit_31 : decode m_Mo_isDigit.2.1 31 = .ok (.goto 4, 3) := by decide +kernel
theorem d_Mo_isDigit_34 : decode m_Mo_isDigit.2.1 34 = .ok (.iconst 0, 1) := by decide +kernel
theorem d_Mo_isDigit_35 : decode m_Mo_isDigit.2.1 35 = .ok (.ireturn, 1) := by decide +kernel
theorem d_Mo_digitsAndFile_0 : decode m_Mo_digitsAndFile.2.1 0 = .ok (.iconst 0, 1) := by decide +kernel
theorem d_Mo_digitsAndFile_1 : decode m_Mo_digitsAndFile.2.1 1 = .ok (.istore_n 2, 1) := by decide +kernel
theorem d_Mo_digitsAndFile_2 : decode m_Mo_digitsAndFile.2.1 2 = .ok (.iload_n 2, 1) := by decide +kernel
theorem d_Mo_digitsAndFile_3 : decode m_Mo_digitsAndFile.2.1 3 = .ok (.iconst 5, 1) := by decide +kernel
theorem d_Mo_digitsAndFile_4 : decode m_Mo_digitsAndFile.2.1 4 = .ok (.if_icmp .ge 19, 3) := by decide +kernel
theorem d_Mo_digitsAndFile_7 : decode m_Mo_digitsAndFile.2.1 7 = .ok (.aload_n 0, 1) := by decide +kernel
theorem d_Mo_digitsAndFile_8 : decode m_Mo_digitsAndFile.2.1 8 = .ok (.iload_n 1, 1) := by decide +kernel
theorem d_Mo_digitsAndFile_9 : decode m_Mo_digitsAndFile.2.1 9 = .ok (.iload_n 2, 1) := by decide +kernel
theorem d_Mo_digitsAndFile_10 : decode m_Mo_digitsAndFile.2.1 10 = .ok (.iadd, 1) := by decide +kernel
theorem d_Mo_digitsAndFile_11 : decode m_Mo_digitsAndFile.2.1 11 = .ok (.invokevirtual 108, 3) := by decide +kernel
theorem d_Mo_digitsAndFile_14 : decode m_Mo_digitsAndFile.2.1 14 = .ok (.ifCond .eq 9, 3) := by decide +kernel
theorem d_Mo_digitsAndFile_17 : decode m_Mo_digitsAndFile.2.1 17 = .ok (.iinc 2 1, 3) := by decide +kernel
theorem d_Mo_digitsAndFile_20 : decode m_Mo_digitsAndFile.2.1 20 = .ok (.goto (-18), 3) := by decide +kernel
theorem d_Mo_digitsAndFile_23 : decode m_Mo_digitsAndFile.2.1 23 = .ok (.iload_n 2, 1) := by decide +kernel
theorem d_Mo_digitsAndFile_24 : decode m_Mo_digitsAndFile.2.1 24 = .ok (.iconst 1, 1) := by decide +kernel
theorem d_Mo_digitsAndFile_25 : decode m_Mo_digitsAndFile.2.1 25 = .ok (.if_icmp .lt 23, 3) := by decide +kernel
theorem d_Mo_digitsAndFile_28 : decode m_Mo_digitsAndFile.2.1 28 = .ok (.iload_n 2, 1) := by decide +kernel
theorem d_Mo_digitsAndFile_29 : decode m_Mo_digitsAndFile.2.1 29 = .ok (.iconst 4, 1) := by decide +kernel
theorem d_Mo_digitsAndFile_30 : decode m_Mo_digitsAndFile.2.1 30 = .ok (.if_icmp .gt 18, 3) := by decide +kernel
theorem d_Mo_digitsAndFile_33 : decode m_Mo_digitsAndFile.2.1 33 = .ok (.aload_n 0, 1) := by decide +kernel
theorem d_Mo_digitsAndFile_34 : decode m_Mo_digitsAndFile.2.1 34 = .ok (.iload_n 1, 1) := by decide +kernel
theorem d_Mo_digitsAndFile_35 : decode m_Mo_digitsAndFile.2.1 35 = .ok (.iload_n 2, 1) := by decide +kernel
theorem d_Mo_digitsAndFile_36 : decode m_Mo_digitsAndFile.2.1 36 = .ok (.iadd, 1) := by decide +kernel
theorem d_Mo_digitsAndFile_37 : decode m_Mo_digitsAndFile.2.1 37 = .ok (.iconst 1, 1) := by decide +kernel
theorem d_Mo_digitsAndFile_38 : decode m_Mo_digitsAndFile.2.1 38 = .ok (.invokevirtual 104, 3) := by decide +kernel
theorem d_Mo_digitsAndFile_41 : decode m_Mo_digitsAndFile.2.1 41 = .ok (.ifCond .eq 7, 3) := by decide +kernel
theorem d_Mo_digitsAndFile_44 : decode m_Mo_digitsAndFile.2.1 44 = .ok (.iconst 1, 1) := by decide +kernel
theorem d_Mo_digitsAndFile_45 : decode m_Mo_digitsAndFile.2.1 45 = .ok (.goto 4, 3) := by decide +kernel
theorem d_Mo_digitsAndFile_48 : decode m_Mo_digitsAndFile.2.1 48 = .ok (.iconst 0, 1) := by decide +kernel
theorem d_Mo_digitsAndFile_49 : decode m_Mo_digitsAndFile.2.1 49 = .ok (.ireturn, 1) := by decide +kernel
theorem d_Mo_fail_0 : decode m_Mo_fail.2.1 0 = .ok (.aload_n 0, 1) := by decide +kernel
theorem d_Mo_fail_1 : decode m_Mo_fail.2.1 1 = .ok (.iload_n 1, 1) := by decide +kernel
theorem d_Mo_fail_2 : decode m_Mo_fail.2.1 2 = .ok (.putfield 89, 3) := by decide +kernel
theorem d_Mo_fail_5 : decode m_Mo_fail.2.1 5 = .ok (.iconst 0, 1) := by decide +kernel
theorem d_Mo_fail_6 : decode m_Mo_fail.2.1 6 = .ok (.ireturn, 1) := by decide +kernel
theorem d_Mo_keep_0 : decode m_Mo_keep.2.1 0 = .ok (.aload_n 0, 1) := by decide +kernel
theorem d_Mo_keep_1 : decode m_Mo_keep.2.1 1 = .ok (.getfield 25, 3) := by decide +kernel
theorem d_Mo_keep_4 : decode m_Mo_keep.2.1 4 = .ok (.iload_n 1, 1) := by decide +kernel
theorem d_Mo_keep_5 : decode m_Mo_keep.2.1 5 = .ok (.aload_n 0, 1) := by decide +kernel
theorem d_Mo_keep_6 : decode m_Mo_keep.2.1 6 = .ok (.getfield 93, 3) := by decide +kernel
theorem d_Mo_keep_9 : decode m_Mo_keep.2.1 9 = .ok (.iastore, 1) := by decide +kernel
theorem d_Mo_keep_10 : decode m_Mo_keep.2.1 10 = .ok (.iconst 0, 1) := by decide +kernel
theorem d_Mo_keep_11 : decode m_Mo_keep.2.1 11 = .ok (.istore_n 2, 1) := by decide +kernel
theorem d_Mo_keep_12 : decode m_Mo_keep.2.1 12 = .ok (.iload_n 2, 1) := by decide +kernel
theorem d_Mo_keep_13 : decode m_Mo_keep.2.1 13 = .ok (.bipush 12, 2) := by decide +kernel
theorem d_Mo_keep_15 : decode m_Mo_keep.2.1 15 = .ok (.if_icmp .ge 26, 3) := by decide +kernel
theorem d_Mo_keep_18 : decode m_Mo_keep.2.1 18 = .ok (.aload_n 0, 1) := by decide +kernel
theorem d_Mo_keep_19 : decode m_Mo_keep.2.1 19 = .ok (.getfield 28, 3) := by decide +kernel
theorem d_Mo_keep_22 : decode m_Mo_keep.2.1 22 = .ok (.bipush 12, 2) := by decide +kernel
theorem d_Mo_keep_24 : decode m_Mo_keep.2.1 24 = .ok (.iload_n 1, 1) := by decide +kernel
theorem d_Mo_keep_25 : decode m_Mo_keep.2.1 25 = .ok (.imul, 1) := by decide +kernel
theorem d_Mo_keep_26 : decode m_Mo_keep.2.1 26 = .ok (.iload_n 2, 1) := by decide +kernel
theorem d_Mo_keep_27 : decode m_Mo_keep.2.1 27 = .ok (.iadd, 1) := by decide +kernel
theorem d_Mo_keep_28 : decode m_Mo_keep.2.1 28 = .ok (.aload_n 0, 1) := by decide +kernel
theorem d_Mo_keep_29 : decode m_Mo_keep.2.1 29 = .ok (.getfield 22, 3) := by decide +kernel
theorem d_Mo_keep_32 : decode m_Mo_keep.2.1 32 = .ok (.iload_n 2, 1) := by decide +kernel
theorem d_Mo_keep_33 : decode m_Mo_keep.2.1 33 = .ok (.iaload, 1) := by decide +kernel
theorem d_Mo_keep_34 : decode m_Mo_keep.2.1 34 = .ok (.iastore, 1) := by decide +kernel
theorem d_Mo_keep_35 : decode m_Mo_keep.2.1 35 = .ok (.iinc 2 1, 3) := by decide +kernel
theorem d_Mo_keep_38 : decode m_Mo_keep.2.1 38 = .ok (.goto (-26), 3) := by decide +kernel
theorem d_Mo_keep_41 : decode m_Mo_keep.2.1 41 = .ok (.aload_n 0, 1) := by decide +kernel
theorem d_Mo_keep_42 : decode m_Mo_keep.2.1 42 = .ok (.iconst 0, 1) := by decide +kernel
theorem d_Mo_keep_43 : decode m_Mo_keep.2.1 43 = .ok (.putfield 93, 3) := by decide +kernel
theorem d_Mo_keep_46 : decode m_Mo_keep.2.1 46 = .ok (.aload_n 0, 1) := by decide +kernel
theorem d_Mo_keep_47 : decode m_Mo_keep.2.1 47 = .ok (.iconst 0, 1) := by decide +kernel
theorem d_Mo_keep_48 : decode m_Mo_keep.2.1 48 = .ok (.putfield 114, 3) := by decide +kernel
theorem d_Mo_keep_51 : decode m_Mo_keep.2.1 51 = .ok (.return_, 1) := by decide +kernel
theorem d_Mo_edit_0 : decode m_Mo_edit.2.1 0 = .ok (.aload_n 0, 1) := by decide +kernel
theorem d_Mo_edit_1 : decode m_Mo_edit.2.1 1 = .ok (.iconst 0, 1) := by decide +kernel
theorem d_Mo_edit_2 : decode m_Mo_edit.2.1 2 = .ok (.putfield 89, 3) := by decide +kernel
theorem d_Mo_edit_5 : decode m_Mo_edit.2.1 5 = .ok (.iload_n 1, 1) := by decide +kernel
theorem d_Mo_edit_6 : decode m_Mo_edit.2.1 6 = .ok (.ifCond .lt 11, 3) := by decide +kernel
theorem d_Mo_edit_9 : decode m_Mo_edit.2.1 9 = .ok (.iload_n 1, 1) := by decide +kernel
theorem d_Mo_edit_10 : decode m_Mo_edit.2.1 10 = .ok (.aload_n 0, 1) := by decide +kernel
theorem d_Mo_edit_11 : decode m_Mo_edit.2.1 11 = .ok (.getfield 125, 3) := by decide +kernel
theorem d_Mo_edit_14 : decode m_Mo_edit.2.1 14 = .ok (.if_icmp .lt 9, 3) := by decide +kernel
theorem d_Mo_edit_17 : decode m_Mo_edit.2.1 17 = .ok (.aload_n 0, 1) := by decide +kernel
theorem d_Mo_edit_18 : decode m_Mo_edit.2.1 18 = .ok (.iconst 1, 1) := by decide +kernel
theorem d_Mo_edit_19 : decode m_Mo_edit.2.1 19 = .ok (.putfield 89, 3) := by decide +kernel
theorem d_Mo_edit_22 : decode m_Mo_edit.2.1 22 = .ok (.return_, 1) := by decide +kernel
theorem d_Mo_edit_23 : decode m_Mo_edit.2.1 23 = .ok (.aload_n 0, 1) := by decide +kernel
theorem d_Mo_edit_24 : decode m_Mo_edit.2.1 24 = .ok (.invokevirtual 118, 3) := by decide +kernel
theorem d_Mo_edit_27 : decode m_Mo_edit.2.1 27 = .ok (.ifCond .ne 14, 3) := by decide +kernel
theorem d_Mo_edit_30 : decode m_Mo_edit.2.1 30 = .ok (.aload_n 0, 1) := by decide +kernel
theorem d_Mo_edit_31 : decode m_Mo_edit.2.1 31 = .ok (.iconst 0, 1) := by decide +kernel
theorem d_Mo_edit_32 : decode m_Mo_edit.2.1 32 = .ok (.putfield 93, 3) := by decide +kernel
theorem d_Mo_edit_35 : decode m_Mo_edit.2.1 35 = .ok (.aload_n 0, 1) := by decide +kernel
theorem d_Mo_edit_36 : decode m_Mo_edit.2.1 36 = .ok (.iconst 2, 1) := by decide +kernel
theorem d_Mo_edit_37 : decode m_Mo_edit.2.1 37 = .ok (.putfield 89, 3) := by decide +kernel
theorem d_Mo_edit_40 : decode m_Mo_edit.2.1 40 = .ok (.return_, 1) := by decide +kernel
theorem d_Mo_edit_41 : decode m_Mo_edit.2.1 41 = .ok (.aload_n 0, 1) := by decide +kernel
theorem d_Mo_edit_42 : decode m_Mo_edit.2.1 42 = .ok (.iload_n 1, 1) := by decide +kernel
theorem d_Mo_edit_43 : decode m_Mo_edit.2.1 43 = .ok (.invokevirtual 128, 3) := by decide +kernel
theorem d_Mo_edit_46 : decode m_Mo_edit.2.1 46 = .ok (.return_, 1) := by decide +kernel
theorem d_Mo_drop_0 : decode m_Mo_drop.2.1 0 = .ok (.aload_n 0, 1) := by decide +kernel
theorem d_Mo_drop_1 : decode m_Mo_drop.2.1 1 = .ok (.iconst 0, 1) := by decide +kernel
theorem d_Mo_drop_2 : decode m_Mo_drop.2.1 2 = .ok (.putfield 89, 3) := by decide +kernel
theorem d_Mo_drop_5 : decode m_Mo_drop.2.1 5 = .ok (.iload_n 1, 1) := by decide +kernel
theorem d_Mo_drop_6 : decode m_Mo_drop.2.1 6 = .ok (.ifCond .lt 11, 3) := by decide +kernel
theorem d_Mo_drop_9 : decode m_Mo_drop.2.1 9 = .ok (.iload_n 1, 1) := by decide +kernel
theorem d_Mo_drop_10 : decode m_Mo_drop.2.1 10 = .ok (.aload_n 0, 1) := by decide +kernel
theorem d_Mo_drop_11 : decode m_Mo_drop.2.1 11 = .ok (.getfield 125, 3) := by decide +kernel
theorem d_Mo_drop_14 : decode m_Mo_drop.2.1 14 = .ok (.if_icmp .lt 9, 3) := by decide +kernel
theorem d_Mo_drop_17 : decode m_Mo_drop.2.1 17 = .ok (.aload_n 0, 1) := by decide +kernel
theorem d_Mo_drop_18 : decode m_Mo_drop.2.1 18 = .ok (.iconst 1, 1) := by decide +kernel
theorem d_Mo_drop_19 : decode m_Mo_drop.2.1 19 = .ok (.putfield 89, 3) := by decide +kernel
theorem d_Mo_drop_22 : decode m_Mo_drop.2.1 22 = .ok (.return_, 1) := by decide +kernel
theorem d_Mo_drop_23 : decode m_Mo_drop.2.1 23 = .ok (.iload_n 1, 1) := by decide +kernel
theorem d_Mo_drop_24 : decode m_Mo_drop.2.1 24 = .ok (.istore_n 2, 1) := by decide +kernel
theorem d_Mo_drop_25 : decode m_Mo_drop.2.1 25 = .ok (.iload_n 2, 1) := by decide +kernel
theorem d_Mo_drop_26 : decode m_Mo_drop.2.1 26 = .ok (.iconst 1, 1) := by decide +kernel
theorem d_Mo_drop_27 : decode m_Mo_drop.2.1 27 = .ok (.iadd, 1) := by decide +kernel
theorem d_Mo_drop_28 : decode m_Mo_drop.2.1 28 = .ok (.aload_n 0, 1) := by decide +kernel
theorem d_Mo_drop_29 : decode m_Mo_drop.2.1 29 = .ok (.getfield 125, 3) := by decide +kernel
theorem d_Mo_drop_32 : decode m_Mo_drop.2.1 32 = .ok (.if_icmp .ge 62, 3) := by decide +kernel
theorem d_Mo_drop_35 : decode m_Mo_drop.2.1 35 = .ok (.aload_n 0, 1) := by decide +kernel
theorem d_Mo_drop_36 : decode m_Mo_drop.2.1 36 = .ok (.getfield 25, 3) := by decide +kernel
theorem d_Mo_drop_39 : decode m_Mo_drop.2.1 39 = .ok (.iload_n 2, 1) := by decide +kernel
theorem d_Mo_drop_40 : decode m_Mo_drop.2.1 40 = .ok (.aload_n 0, 1) := by decide +kernel
theorem d_Mo_drop_41 : decode m_Mo_drop.2.1 41 = .ok (.getfield 25, 3) := by decide +kernel
theorem d_Mo_drop_44 : decode m_Mo_drop.2.1 44 = .ok (.iload_n 2, 1) := by decide +kernel
theorem d_Mo_drop_45 : decode m_Mo_drop.2.1 45 = .ok (.iconst 1, 1) := by decide +kernel
theorem d_Mo_drop_46 : decode m_Mo_drop.2.1 46 = .ok (.iadd, 1) := by decide +kernel
theorem d_Mo_drop_47 : decode m_Mo_drop.2.1 47 = .ok (.iaload, 1) := by decide +kernel
theorem d_Mo_drop_48 : decode m_Mo_drop.2.1 48 = .ok (.iastore, 1) := by decide +kernel
theorem d_Mo_drop_49 : decode m_Mo_drop.2.1 49 = .ok (.iconst 0, 1) := by decide +kernel
theorem d_Mo_drop_50 : decode m_Mo_drop.2.1 50 = .ok (.istore_n 3, 1) := by decide +kernel
theorem d_Mo_drop_51 : decode m_Mo_drop.2.1 51 = .ok (.iload_n 3, 1) := by decide +kernel
theorem d_Mo_drop_52 : decode m_Mo_drop.2.1 52 = .ok (.bipush 12, 2) := by decide +kernel
theorem d_Mo_drop_54 : decode m_Mo_drop.2.1 54 = .ok (.if_icmp .ge 34, 3) := by decide +kernel
theorem d_Mo_drop_57 : decode m_Mo_drop.2.1 57 = .ok (.aload_n 0, 1) := by decide +kernel
theorem d_Mo_drop_58 : decode m_Mo_drop.2.1 58 = .ok (.getfield 28, 3) := by decide +kernel
theorem d_Mo_drop_61 : decode m_Mo_drop.2.1 61 = .ok (.bipush 12, 2) := by decide +kernel
theorem d_Mo_drop_63 : decode m_Mo_drop.2.1 63 = .ok (.iload_n 2, 1) := by decide +kernel
theorem d_Mo_drop_64 : decode m_Mo_drop.2.1 64 = .ok (.imul, 1) := by decide +kernel
theorem d_Mo_drop_65 : decode m_Mo_drop.2.1 65 = .ok (.iload_n 3, 1) := by decide +kernel
theorem d_Mo_drop_66 : decode m_Mo_drop.2.1 66 = .ok (.iadd, 1) := by decide +kernel
theorem d_Mo_drop_67 : decode m_Mo_drop.2.1 67 = .ok (.aload_n 0, 1) := by decide +kernel
theorem d_Mo_drop_68 : decode m_Mo_drop.2.1 68 = .ok (.getfield 28, 3) := by decide +kernel
theorem d_Mo_drop_71 : decode m_Mo_drop.2.1 71 = .ok (.bipush 12, 2) := by decide +kernel
theorem d_Mo_drop_73 : decode m_Mo_drop.2.1 73 = .ok (.iload_n 2, 1) := by decide +kernel
theorem d_Mo_drop_74 : decode m_Mo_drop.2.1 74 = .ok (.imul, 1) := by decide +kernel
theorem d_Mo_drop_75 : decode m_Mo_drop.2.1 75 = .ok (.bipush 12, 2) := by decide +kernel
theorem d_Mo_drop_77 : decode m_Mo_drop.2.1 77 = .ok (.iadd, 1) := by decide +kernel
theorem d_Mo_drop_78 : decode m_Mo_drop.2.1 78 = .ok (.iload_n 3, 1) := by decide +kernel
theorem d_Mo_drop_79 : decode m_Mo_drop.2.1 79 = .ok (.iadd, 1) := by decide +kernel
theorem d_Mo_drop_80 : decode m_Mo_drop.2.1 80 = .ok (.iaload, 1) := by decide +kernel
theorem d_Mo_drop_81 : decode m_Mo_drop.2.1 81 = .ok (.iastore, 1) := by decide +kernel
theorem d_Mo_drop_82 : decode m_Mo_drop.2.1 82 = .ok (.iinc 3 1, 3) := by decide +kernel
theorem d_Mo_drop_85 : decode m_Mo_drop.2.1 85 = .ok (.goto (-34), 3) := by decide +kernel
theorem d_Mo_drop_88 : decode m_Mo_drop.2.1 88 = .ok (.iinc 2 1, 3) := by decide +kernel
theorem d_Mo_drop_91 : decode m_Mo_drop.2.1 91 = .ok (.goto (-66), 3) := by decide +kernel
theorem d_Mo_drop_94 : decode m_Mo_drop.2.1 94 = .ok (.aload_n 0, 1) := by decide +kernel
theorem d_Mo_drop_95 : decode m_Mo_drop.2.1 95 = .ok (.dup, 1) := by decide +kernel
theorem d_Mo_drop_96 : decode m_Mo_drop.2.1 96 = .ok (.getfield 125, 3) := by decide +kernel
theorem d_Mo_drop_99 : decode m_Mo_drop.2.1 99 = .ok (.iconst 1, 1) := by decide +kernel
theorem d_Mo_drop_100 : decode m_Mo_drop.2.1 100 = .ok (.isub, 1) := by decide +kernel
theorem d_Mo_drop_101 : decode m_Mo_drop.2.1 101 = .ok (.putfield 125, 3) := by decide +kernel
theorem d_Mo_drop_104 : decode m_Mo_drop.2.1 104 = .ok (.aload_n 0, 1) := by decide +kernel
theorem d_Mo_drop_105 : decode m_Mo_drop.2.1 105 = .ok (.iconst 0, 1) := by decide +kernel
theorem d_Mo_drop_106 : decode m_Mo_drop.2.1 106 = .ok (.putfield 114, 3) := by decide +kernel
theorem d_Mo_drop_109 : decode m_Mo_drop.2.1 109 = .ok (.return_, 1) := by decide +kernel
theorem d_Mo_commands_0 : decode m_Mo_commands.2.1 0 = .ok (.aload_n 0, 1) := by decide +kernel
theorem d_Mo_commands_1 : decode m_Mo_commands.2.1 1 = .ok (.iconst 0, 1) := by decide +kernel
theorem d_Mo_commands_2 : decode m_Mo_commands.2.1 2 = .ok (.putfield 89, 3) := by decide +kernel
theorem d_Mo_commands_5 : decode m_Mo_commands.2.1 5 = .ok (.aload_n 0, 1) := by decide +kernel
theorem d_Mo_commands_6 : decode m_Mo_commands.2.1 6 = .ok (.getfield 125, 3) := by decide +kernel
theorem d_Mo_commands_9 : decode m_Mo_commands.2.1 9 = .ok (.ireturn, 1) := by decide +kernel
theorem d_Mo_put_0 : decode m_Mo_put.2.1 0 = .ok (.aload_n 0, 1) := by decide +kernel
theorem d_Mo_put_1 : decode m_Mo_put.2.1 1 = .ok (.iconst 0, 1) := by decide +kernel
theorem d_Mo_put_2 : decode m_Mo_put.2.1 2 = .ok (.putfield 89, 3) := by decide +kernel
theorem d_Mo_put_5 : decode m_Mo_put.2.1 5 = .ok (.iload_n 1, 1) := by decide +kernel
theorem d_Mo_put_6 : decode m_Mo_put.2.1 6 = .ok (.invokestatic 96, 3) := by decide +kernel
theorem d_Mo_put_9 : decode m_Mo_put.2.1 9 = .ok (.ifCond .eq 14, 3) := by decide +kernel
theorem d_Mo_put_12 : decode m_Mo_put.2.1 12 = .ok (.aload_n 0, 1) := by decide +kernel
theorem d_Mo_put_13 : decode m_Mo_put.2.1 13 = .ok (.getfield 7, 3) := by decide +kernel
theorem d_Mo_put_16 : decode m_Mo_put.2.1 16 = .ok (.iload_n 1, 1) := by decide +kernel
theorem d_Mo_put_17 : decode m_Mo_put.2.1 17 = .ok (.iaload, 1) := by decide +kernel
theorem d_Mo_put_18 : decode m_Mo_put.2.1 18 = .ok (.bipush 6, 2) := by decide +kernel
theorem d_Mo_put_20 : decode m_Mo_put.2.1 20 = .ok (.if_icmp .ne 5, 3) := by decide +kernel
theorem d_Mo_put_23 : decode m_Mo_put.2.1 23 = .ok (.iconst (-1), 1) := by decide +kernel
theorem d_Mo_put_24 : decode m_Mo_put.2.1 24 = .ok (.ireturn, 1) := by decide +kernel
theorem d_Mo_put_25 : decode m_Mo_put.2.1 25 = .ok (.aload_n 0, 1) := by decide +kernel
theorem d_Mo_put_26 : decode m_Mo_put.2.1 26 = .ok (.getfield 7, 3) := by decide +kernel
theorem d_Mo_put_29 : decode m_Mo_put.2.1 29 = .ok (.iload_n 1, 1) := by decide +kernel
theorem d_Mo_put_30 : decode m_Mo_put.2.1 30 = .ok (.iaload, 1) := by decide +kernel
theorem d_Mo_put_31 : decode m_Mo_put.2.1 31 = .ok (.ifCond .ge 10, 3) := by decide +kernel
theorem d_Mo_put_34 : decode m_Mo_put.2.1 34 = .ok (.aload_n 0, 1) := by decide +kernel
theorem d_Mo_put_35 : decode m_Mo_put.2.1 35 = .ok (.getfield 7, 3) := by decide +kernel
theorem d_Mo_put_38 : decode m_Mo_put.2.1 38 = .ok (.iload_n 1, 1) := by decide +kernel
theorem d_Mo_put_39 : decode m_Mo_put.2.1 39 = .ok (.iconst 0, 1) := by decide +kernel
theorem d_Mo_put_40 : decode m_Mo_put.2.1 40 = .ok (.iastore, 1) := by decide +kernel
theorem d_Mo_put_41 : decode m_Mo_put.2.1 41 = .ok (.aload_n 0, 1) := by decide +kernel
theorem d_Mo_put_42 : decode m_Mo_put.2.1 42 = .ok (.getfield 13, 3) := by decide +kernel
theorem d_Mo_put_45 : decode m_Mo_put.2.1 45 = .ok (.bipush 6, 2) := by decide +kernel
theorem d_Mo_put_47 : decode m_Mo_put.2.1 47 = .ok (.iload_n 1, 1) := by decide +kernel
theorem d_Mo_put_48 : decode m_Mo_put.2.1 48 = .ok (.imul, 1) := by decide +kernel
theorem d_Mo_put_49 : decode m_Mo_put.2.1 49 = .ok (.aload_n 0, 1) := by decide +kernel
theorem d_Mo_put_50 : decode m_Mo_put.2.1 50 = .ok (.getfield 7, 3) := by decide +kernel
theorem d_Mo_put_53 : decode m_Mo_put.2.1 53 = .ok (.iload_n 1, 1) := by decide +kernel
theorem d_Mo_put_54 : decode m_Mo_put.2.1 54 = .ok (.iaload, 1) := by decide +kernel
theorem d_Mo_put_55 : decode m_Mo_put.2.1 55 = .ok (.iadd, 1) := by decide +kernel
theorem d_Mo_put_56 : decode m_Mo_put.2.1 56 = .ok (.iload_n 2, 1) := by decide +kernel
theorem d_Mo_put_57 : decode m_Mo_put.2.1 57 = .ok (.iastore, 1) := by decide +kernel
theorem d_Mo_put_58 : decode m_Mo_put.2.1 58 = .ok (.aload_n 0, 1) := by decide +kernel
theorem d_Mo_put_59 : decode m_Mo_put.2.1 59 = .ok (.getfield 7, 3) := by decide +kernel
theorem d_Mo_put_62 : decode m_Mo_put.2.1 62 = .ok (.iload_n 1, 1) := by decide +kernel
theorem d_Mo_put_63 : decode m_Mo_put.2.1 63 = .ok (.dup2, 1) := by decide +kernel
theorem d_Mo_put_64 : decode m_Mo_put.2.1 64 = .ok (.iaload, 1) := by decide +kernel
theorem d_Mo_put_65 : decode m_Mo_put.2.1 65 = .ok (.iconst 1, 1) := by decide +kernel
theorem d_Mo_put_66 : decode m_Mo_put.2.1 66 = .ok (.iadd, 1) := by decide +kernel
theorem d_Mo_put_67 : decode m_Mo_put.2.1 67 = .ok (.iastore, 1) := by decide +kernel
theorem d_Mo_put_68 : decode m_Mo_put.2.1 68 = .ok (.aload_n 0, 1) := by decide +kernel
theorem d_Mo_put_69 : decode m_Mo_put.2.1 69 = .ok (.getfield 7, 3) := by decide +kernel
theorem d_Mo_put_72 : decode m_Mo_put.2.1 72 = .ok (.iload_n 1, 1) := by decide +kernel
theorem d_Mo_put_73 : decode m_Mo_put.2.1 73 = .ok (.iaload, 1) := by decide +kernel
theorem d_Mo_put_74 : decode m_Mo_put.2.1 74 = .ok (.ireturn, 1) := by decide +kernel
theorem d_Mo_remove_0 : decode m_Mo_remove.2.1 0 = .ok (.aload_n 0, 1) := by decide +kernel
theorem d_Mo_remove_1 : decode m_Mo_remove.2.1 1 = .ok (.iconst 0, 1) := by decide +kernel
theorem d_Mo_remove_2 : decode m_Mo_remove.2.1 2 = .ok (.putfield 89, 3) := by decide +kernel
theorem d_Mo_remove_5 : decode m_Mo_remove.2.1 5 = .ok (.iload_n 1, 1) := by decide +kernel
theorem d_Mo_remove_6 : decode m_Mo_remove.2.1 6 = .ok (.invokestatic 96, 3) := by decide +kernel
theorem d_Mo_remove_9 : decode m_Mo_remove.2.1 9 = .ok (.ifCond .eq 12, 3) := by decide +kernel
theorem d_Mo_remove_12 : decode m_Mo_remove.2.1 12 = .ok (.aload_n 0, 1) := by decide +kernel
theorem d_Mo_remove_13 : decode m_Mo_remove.2.1 13 = .ok (.getfield 7, 3) := by decide +kernel
theorem d_Mo_remove_16 : decode m_Mo_remove.2.1 16 = .ok (.iload_n 1, 1) := by decide +kernel
theorem d_Mo_remove_17 : decode m_Mo_remove.2.1 17 = .ok (.iaload, 1) := by decide +kernel
theorem d_Mo_remove_18 : decode m_Mo_remove.2.1 18 = .ok (.ifCond .ge 5, 3) := by decide +kernel
theorem d_Mo_remove_21 : decode m_Mo_remove.2.1 21 = .ok (.iconst 0, 1) := by decide +kernel
theorem d_Mo_remove_22 : decode m_Mo_remove.2.1 22 = .ok (.ireturn, 1) := by decide +kernel
theorem d_Mo_remove_23 : decode m_Mo_remove.2.1 23 = .ok (.aload_n 0, 1) := by decide +kernel
theorem d_Mo_remove_24 : decode m_Mo_remove.2.1 24 = .ok (.getfield 7, 3) := by decide +kernel
theorem d_Mo_remove_27 : decode m_Mo_remove.2.1 27 = .ok (.iload_n 1, 1) := by decide +kernel
theorem d_Mo_remove_28 : decode m_Mo_remove.2.1 28 = .ok (.iconst (-1), 1) := by decide +kernel
theorem d_Mo_remove_29 : decode m_Mo_remove.2.1 29 = .ok (.iastore, 1) := by decide +kernel
theorem d_Mo_remove_30 : decode m_Mo_remove.2.1 30 = .ok (.iconst 1, 1) := by decide +kernel
theorem d_Mo_remove_31 : decode m_Mo_remove.2.1 31 = .ok (.ireturn, 1) := by decide +kernel
theorem d_Mo_run_0 : decode m_Mo_run.2.1 0 = .ok (.aload_n 0, 1) := by decide +kernel
theorem d_Mo_run_1 : decode m_Mo_run.2.1 1 = .ok (.iconst 0, 1) := by decide +kernel
theorem d_Mo_run_2 : decode m_Mo_run.2.1 2 = .ok (.putfield 89, 3) := by decide +kernel
theorem d_Mo_run_5 : decode m_Mo_run.2.1 5 = .ok (.iload_n 1, 1) := by decide +kernel
theorem d_Mo_run_6 : decode m_Mo_run.2.1 6 = .ok (.ifCond .lt 8, 3) := by decide +kernel
theorem d_Mo_run_9 : decode m_Mo_run.2.1 9 = .ok (.iload_n 1, 1) := by decide +kernel
theorem d_Mo_run_10 : decode m_Mo_run.2.1 10 = .ok (.iconst 4, 1) := by decide +kernel
theorem d_Mo_run_11 : decode m_Mo_run.2.1 11 = .ok (.if_icmp .le 9, 3) := by decide +kernel
theorem d_Mo_run_14 : decode m_Mo_run.2.1 14 = .ok (.aload_n 0, 1) := by decide +kernel
theorem d_Mo_run_15 : decode m_Mo_run.2.1 15 = .ok (.iconst 1, 1) := by decide +kernel
theorem d_Mo_run_16 : decode m_Mo_run.2.1 16 = .ok (.invokevirtual 122, 3) := by decide +kernel
theorem d_Mo_run_19 : decode m_Mo_run.2.1 19 = .ok (.ireturn, 1) := by decide +kernel
theorem d_Mo_run_20 : decode m_Mo_run.2.1 20 = .ok (.aload_n 0, 1) := by decide +kernel
theorem d_Mo_run_21 : decode m_Mo_run.2.1 21 = .ok (.getfield 125, 3) := by decide +kernel
theorem d_Mo_run_24 : decode m_Mo_run.2.1 24 = .ok (.ifCond .ne 9, 3) := by decide +kernel
theorem d_Mo_run_27 : decode m_Mo_run.2.1 27 = .ok (.aload_n 0, 1) := by decide +kernel
theorem d_Mo_run_28 : decode m_Mo_run.2.1 28 = .ok (.iconst 2, 1) := by decide +kernel
theorem d_Mo_run_29 : decode m_Mo_run.2.1 29 = .ok (.invokevirtual 122, 3) := by decide +kernel
theorem d_Mo_run_32 : decode m_Mo_run.2.1 32 = .ok (.ireturn, 1) := by decide +kernel
theorem d_Mo_run_33 : decode m_Mo_run.2.1 33 = .ok (.aload_n 0, 1) := by decide +kernel
theorem d_Mo_run_34 : decode m_Mo_run.2.1 34 = .ok (.iconst 1, 1) := by decide +kernel
theorem d_Mo_run_35 : decode m_Mo_run.2.1 35 = .ok (.putfield 114, 3) := by decide +kernel
theorem d_Mo_run_38 : decode m_Mo_run.2.1 38 = .ok (.aload_n 0, 1) := by decide +kernel
theorem d_Mo_run_39 : decode m_Mo_run.2.1 39 = .ok (.iconst 0, 1) := by decide +kernel
theorem d_Mo_run_40 : decode m_Mo_run.2.1 40 = .ok (.invokevirtual 247, 3) := by decide +kernel
theorem d_Mo_run_43 : decode m_Mo_run.2.1 43 = .ok (.aload_n 0, 1) := by decide +kernel
theorem d_Mo_run_44 : decode m_Mo_run.2.1 44 = .ok (.iload_n 1, 1) := by decide +kernel
theorem d_Mo_run_45 : decode m_Mo_run.2.1 45 = .ok (.invokevirtual 251, 3) := by decide +kernel
theorem d_Mo_run_48 : decode m_Mo_run.2.1 48 = .ok (.ifCond .eq 5, 3) := by decide +kernel
theorem d_Mo_run_51 : decode m_Mo_run.2.1 51 = .ok (.iconst 0, 1) := by decide +kernel
theorem d_Mo_run_52 : decode m_Mo_run.2.1 52 = .ok (.ireturn, 1) := by decide +kernel
theorem d_Mo_run_53 : decode m_Mo_run.2.1 53 = .ok (.aload_n 0, 1) := by decide +kernel
theorem d_Mo_run_54 : decode m_Mo_run.2.1 54 = .ok (.getfield 68, 3) := by decide +kernel
theorem d_Mo_run_57 : decode m_Mo_run.2.1 57 = .ok (.aload_n 0, 1) := by decide +kernel
theorem d_Mo_run_58 : decode m_Mo_run.2.1 58 = .ok (.getfield 222, 3) := by decide +kernel
theorem d_Mo_run_61 : decode m_Mo_run.2.1 61 = .ok (.baload, 1) := by decide +kernel
theorem d_Mo_run_62 : decode m_Mo_run.2.1 62 = .ok (.ifCond .ne 17, 3) := by decide +kernel
theorem d_Mo_run_65 : decode m_Mo_run.2.1 65 = .ok (.aload_n 0, 1) := by decide +kernel
theorem d_Mo_run_66 : decode m_Mo_run.2.1 66 = .ok (.getfield 68, 3) := by decide +kernel
theorem d_Mo_run_69 : decode m_Mo_run.2.1 69 = .ok (.aload_n 0, 1) := by decide +kernel
theorem d_Mo_run_70 : decode m_Mo_run.2.1 70 = .ok (.getfield 225, 3) := by decide +kernel
theorem d_Mo_run_73 : decode m_Mo_run.2.1 73 = .ok (.baload, 1) := by decide +kernel
theorem d_Mo_run_74 : decode m_Mo_run.2.1 74 = .ok (.ifCond .ne 5, 3) := by decide +kernel
theorem d_Mo_run_77 : decode m_Mo_run.2.1 77 = .ok (.iconst 1, 1) := by decide +kernel
theorem d_Mo_run_78 : decode m_Mo_run.2.1 78 = .ok (.ireturn, 1) := by decide +kernel
theorem d_Mo_run_79 : decode m_Mo_run.2.1 79 = .ok (.aload_n 0, 1) := by decide +kernel
theorem d_Mo_run_80 : decode m_Mo_run.2.1 80 = .ok (.iconst 1, 1) := by decide +kernel
theorem d_Mo_run_81 : decode m_Mo_run.2.1 81 = .ok (.invokevirtual 247, 3) := by decide +kernel
theorem d_Mo_run_84 : decode m_Mo_run.2.1 84 = .ok (.aload_n 0, 1) := by decide +kernel
theorem d_Mo_run_85 : decode m_Mo_run.2.1 85 = .ok (.dup, 1) := by decide +kernel
theorem d_Mo_run_86 : decode m_Mo_run.2.1 86 = .ok (.getfield 254, 3) := by decide +kernel
theorem d_Mo_run_89 : decode m_Mo_run.2.1 89 = .ok (.iconst 1, 1) := by decide +kernel
theorem d_Mo_run_90 : decode m_Mo_run.2.1 90 = .ok (.iadd, 1) := by decide +kernel
theorem d_Mo_run_91 : decode m_Mo_run.2.1 91 = .ok (.putfield 254, 3) := by decide +kernel
theorem d_Mo_run_94 : decode m_Mo_run.2.1 94 = .ok (.aload_n 0, 1) := by decide +kernel
theorem d_Mo_run_95 : decode m_Mo_run.2.1 95 = .ok (.iconst 0, 1) := by decide +kernel
theorem d_Mo_run_96 : decode m_Mo_run.2.1 96 = .ok (.invokevirtual 251, 3) := by decide +kernel
theorem d_Mo_run_99 : decode m_Mo_run.2.1 99 = .ok (.ifCond .eq 7, 3) := by decide +kernel
theorem d_Mo_run_102 : decode m_Mo_run.2.1 102 = .ok (.iconst 0, 1) := by decide +kernel
theorem d_Mo_run_103 : decode m_Mo_run.2.1 103 = .ok (.goto 4, 3) := by decide +kernel
theorem d_Mo_run_106 : decode m_Mo_run.2.1 106 = .ok (.iconst 1, 1) := by decide +kernel
theorem d_Mo_run_107 : decode m_Mo_run.2.1 107 = .ok (.ireturn, 1) := by decide +kernel
theorem d_Mo_save_0 : decode m_Mo_save.2.1 0 = .ok (.iconst 0, 1) := by decide +kernel
theorem d_Mo_save_1 : decode m_Mo_save.2.1 1 = .ok (.istore_n 2, 1) := by decide +kernel
theorem d_Mo_save_2 : decode m_Mo_save.2.1 2 = .ok (.iload_n 2, 1) := by decide +kernel
theorem d_Mo_save_3 : decode m_Mo_save.2.1 3 = .ok (.bipush 12, 2) := by decide +kernel
theorem d_Mo_save_5 : decode m_Mo_save.2.1 5 = .ok (.if_icmp .ge 40, 3) := by decide +kernel
theorem d_Mo_save_8 : decode m_Mo_save.2.1 8 = .ok (.iload_n 1, 1) := by decide +kernel
theorem d_Mo_save_9 : decode m_Mo_save.2.1 9 = .ok (.ifCond .eq 18, 3) := by decide +kernel
theorem d_Mo_save_12 : decode m_Mo_save.2.1 12 = .ok (.aload_n 0, 1) := by decide +kernel
theorem d_Mo_save_13 : decode m_Mo_save.2.1 13 = .ok (.getfield 7, 3) := by decide +kernel
theorem d_Mo_save_16 : decode m_Mo_save.2.1 16 = .ok (.iload_n 2, 1) := by decide +kernel
theorem d_Mo_save_17 : decode m_Mo_save.2.1 17 = .ok (.aload_n 0, 1) := by decide +kernel
theorem d_Mo_save_18 : decode m_Mo_save.2.1 18 = .ok (.getfield 16, 3) := by decide +kernel
theorem d_Mo_save_21 : decode m_Mo_save.2.1 21 = .ok (.iload_n 2, 1) := by decide +kernel
theorem d_Mo_save_22 : decode m_Mo_save.2.1 22 = .ok (.iaload, 1) := by decide +kernel
theorem d_Mo_save_23 : decode m_Mo_save.2.1 23 = .ok (.iastore, 1) := by decide +kernel
theorem d_Mo_save_24 : decode m_Mo_save.2.1 24 = .ok (.goto 15, 3) := by decide +kernel
theorem d_Mo_save_27 : decode m_Mo_save.2.1 27 = .ok (.aload_n 0, 1) := by decide +kernel
theorem d_Mo_save_28 : decode m_Mo_save.2.1 28 = .ok (.getfield 16, 3) := by decide +kernel
theorem d_Mo_save_31 : decode m_Mo_save.2.1 31 = .ok (.iload_n 2, 1) := by decide +kernel
theorem d_Mo_save_32 : decode m_Mo_save.2.1 32 = .ok (.aload_n 0, 1) := by decide +kernel
theorem d_Mo_save_33 : decode m_Mo_save.2.1 33 = .ok (.getfield 7, 3) := by decide +kernel
theorem d_Mo_save_36 : decode m_Mo_save.2.1 36 = .ok (.iload_n 2, 1) := by decide +kernel
theorem d_Mo_save_37 : decode m_Mo_save.2.1 37 = .ok (.iaload, 1) := by decide +kernel
theorem d_Mo_save_38 : decode m_Mo_save.2.1 38 = .ok (.iastore, 1) := by decide +kernel
theorem d_Mo_save_39 : decode m_Mo_save.2.1 39 = .ok (.iinc 2 1, 3) := by decide +kernel
theorem d_Mo_save_42 : decode m_Mo_save.2.1 42 = .ok (.goto (-40), 3) := by decide +kernel
theorem d_Mo_save_45 : decode m_Mo_save.2.1 45 = .ok (.iconst 0, 1) := by decide +kernel
theorem d_Mo_save_46 : decode m_Mo_save.2.1 46 = .ok (.istore_n 2, 1) := by decide +kernel
theorem d_Mo_save_47 : decode m_Mo_save.2.1 47 = .ok (.iload_n 2, 1) := by decide +kernel
theorem d_Mo_save_48 : decode m_Mo_save.2.1 48 = .ok (.bipush 72, 2) := by decide +kernel
theorem d_Mo_save_50 : decode m_Mo_save.2.1 50 = .ok (.if_icmp .ge 40, 3) := by decide +kernel
theorem d_Mo_save_53 : decode m_Mo_save.2.1 53 = .ok (.iload_n 1, 1) := by decide +kernel
theorem d_Mo_save_54 : decode m_Mo_save.2.1 54 = .ok (.ifCond .eq 18, 3) := by decide +kernel
theorem d_Mo_save_57 : decode m_Mo_save.2.1 57 = .ok (.aload_n 0, 1) := by decide +kernel
theorem d_Mo_save_58 : decode m_Mo_save.2.1 58 = .ok (.getfield 13, 3) := by decide +kernel
theorem d_Mo_save_61 : decode m_Mo_save.2.1 61 = .ok (.iload_n 2, 1) := by decide +kernel
theorem d_Mo_save_62 : decode m_Mo_save.2.1 62 = .ok (.aload_n 0, 1) := by decide +kernel
theorem d_Mo_save_63 : decode m_Mo_save.2.1 63 = .ok (.getfield 19, 3) := by decide +kernel
theorem d_Mo_save_66 : decode m_Mo_save.2.1 66 = .ok (.iload_n 2, 1) := by decide +kernel
theorem d_Mo_save_67 : decode m_Mo_save.2.1 67 = .ok (.iaload, 1) := by decide +kernel
theorem d_Mo_save_68 : decode m_Mo_save.2.1 68 = .ok (.iastore, 1) := by decide +kernel
theorem d_Mo_save_69 : decode m_Mo_save.2.1 69 = .ok (.goto 15, 3) := by decide +kernel
theorem d_Mo_save_72 : decode m_Mo_save.2.1 72 = .ok (.aload_n 0, 1) := by decide +kernel
theorem d_Mo_save_73 : decode m_Mo_save.2.1 73 = .ok (.getfield 19, 3) := by decide +kernel
theorem d_Mo_save_76 : decode m_Mo_save.2.1 76 = .ok (.iload_n 2, 1) := by decide +kernel
theorem d_Mo_save_77 : decode m_Mo_save.2.1 77 = .ok (.aload_n 0, 1) := by decide +kernel
theorem d_Mo_save_78 : decode m_Mo_save.2.1 78 = .ok (.getfield 13, 3) := by decide +kernel
theorem d_Mo_save_81 : decode m_Mo_save.2.1 81 = .ok (.iload_n 2, 1) := by decide +kernel
theorem d_Mo_save_82 : decode m_Mo_save.2.1 82 = .ok (.iaload, 1) := by decide +kernel
theorem d_Mo_save_83 : decode m_Mo_save.2.1 83 = .ok (.iastore, 1) := by decide +kernel
theorem d_Mo_save_84 : decode m_Mo_save.2.1 84 = .ok (.iinc 2 1, 3) := by decide +kernel
theorem d_Mo_save_87 : decode m_Mo_save.2.1 87 = .ok (.goto (-40), 3) := by decide +kernel
theorem d_Mo_save_90 : decode m_Mo_save.2.1 90 = .ok (.return_, 1) := by decide +kernel
theorem d_Mo_attempt_0 : decode m_Mo_attempt.2.1 0 = .ok (.aload_n 0, 1) := by decide +kernel
theorem d_Mo_attempt_1 : decode m_Mo_attempt.2.1 1 = .ok (.iconst 0, 1) := by decide +kernel
theorem d_Mo_attempt_2 : decode m_Mo_attempt.2.1 2 = .ok (.putfield 219, 3) := by decide +kernel
theorem d_Mo_attempt_5 : decode m_Mo_attempt.2.1 5 = .ok (.iconst 0, 1) := by decide +kernel
theorem d_Mo_attempt_6 : decode m_Mo_attempt.2.1 6 = .ok (.istore_n 2, 1) := by decide +kernel
theorem d_Mo_attempt_7 : decode m_Mo_attempt.2.1 7 = .ok (.iload_n 2, 1) := by decide +kernel
theorem d_Mo_attempt_8 : decode m_Mo_attempt.2.1 8 = .ok (.bipush 10, 2) := by decide +kernel
theorem d_Mo_attempt_10 : decode m_Mo_attempt.2.1 10 = .ok (.if_icmp .ge 30, 3) := by decide +kernel
theorem d_Mo_attempt_13 : decode m_Mo_attempt.2.1 13 = .ok (.aload_n 0, 1) := by decide +kernel
theorem d_Mo_attempt_14 : decode m_Mo_attempt.2.1 14 = .ok (.getfield 64, 3) := by decide +kernel
theorem d_Mo_attempt_17 : decode m_Mo_attempt.2.1 17 = .ok (.iload_n 2, 1) := by decide +kernel
theorem d_Mo_attempt_18 : decode m_Mo_attempt.2.1 18 = .ok (.iconst 0, 1) := by decide +kernel
theorem d_Mo_attempt_19 : decode m_Mo_attempt.2.1 19 = .ok (.bastore, 1) := by decide +kernel
theorem d_Mo_attempt_20 : decode m_Mo_attempt.2.1 20 = .ok (.aload_n 0, 1) := by decide +kernel
theorem d_Mo_attempt_21 : decode m_Mo_attempt.2.1 21 = .ok (.getfield 68, 3) := by decide +kernel
theorem d_Mo_attempt_24 : decode m_Mo_attempt.2.1 24 = .ok (.iload_n 2, 1) := by decide +kernel
theorem d_Mo_attempt_25 : decode m_Mo_attempt.2.1 25 = .ok (.iconst 0, 1) := by decide +kernel
theorem d_Mo_attempt_26 : decode m_Mo_attempt.2.1 26 = .ok (.bastore, 1) := by decide +kernel
theorem d_Mo_attempt_27 : decode m_Mo_attempt.2.1 27 = .ok (.aload_n 0, 1) := by decide +kernel
theorem d_Mo_attempt_28 : decode m_Mo_attempt.2.1 28 = .ok (.getfield 71, 3) := by decide +kernel
theorem d_Mo_attempt_31 : decode m_Mo_attempt.2.1 31 = .ok (.iload_n 2, 1) := by decide +kernel
theorem d_Mo_attempt_32 : decode m_Mo_attempt.2.1 32 = .ok (.iconst 0, 1) := by decide +kernel
theorem d_Mo_attempt_33 : decode m_Mo_attempt.2.1 33 = .ok (.iastore, 1) := by decide +kernel
theorem d_Mo_attempt_34 : decode m_Mo_attempt.2.1 34 = .ok (.iinc 2 1, 3) := by decide +kernel
theorem d_Mo_attempt_37 : decode m_Mo_attempt.2.1 37 = .ok (.goto (-30), 3) := by decide +kernel
theorem d_Mo_attempt_40 : decode m_Mo_attempt.2.1 40 = .ok (.iconst 0, 1) := by decide +kernel
theorem d_Mo_attempt_41 : decode m_Mo_attempt.2.1 41 = .ok (.istore_n 2, 1) := by decide +kernel
theorem d_Mo_attempt_42 : decode m_Mo_attempt.2.1 42 = .ok (.iload_n 2, 1) := by decide +kernel
theorem d_Mo_attempt_43 : decode m_Mo_attempt.2.1 43 = .ok (.aload_n 0, 1) := by decide +kernel
theorem d_Mo_attempt_44 : decode m_Mo_attempt.2.1 44 = .ok (.getfield 125, 3) := by decide +kernel
theorem d_Mo_attempt_47 : decode m_Mo_attempt.2.1 47 = .ok (.if_icmp .ge 45, 3) := by decide +kernel
theorem d_Mo_attempt_50 : decode m_Mo_attempt.2.1 50 = .ok (.aload_n 0, 1) := by decide +kernel
theorem d_Mo_attempt_51 : decode m_Mo_attempt.2.1 51 = .ok (.getfield 64, 3) := by decide +kernel
theorem d_Mo_attempt_54 : decode m_Mo_attempt.2.1 54 = .ok (.iload_n 2, 1) := by decide +kernel
theorem d_Mo_attempt_55 : decode m_Mo_attempt.2.1 55 = .ok (.baload, 1) := by decide +kernel
theorem d_Mo_attempt_56 : decode m_Mo_attempt.2.1 56 = .ok (.ifCond .ne 19, 3) := by decide +kernel
theorem d_Mo_attempt_59 : decode m_Mo_attempt.2.1 59 = .ok (.aload_n 0, 1) := by decide +kernel
theorem d_Mo_attempt_60 : decode m_Mo_attempt.2.1 60 = .ok (.iload_n 2, 1) := by decide +kernel
theorem d_Mo_attempt_61 : decode m_Mo_attempt.2.1 61 = .ok (.iconst 0, 1) := by decide +kernel
theorem d_Mo_attempt_62 : decode m_Mo_attempt.2.1 62 = .ok (.invokevirtual 234, 3) := by decide +kernel
theorem d_Mo_attempt_65 : decode m_Mo_attempt.2.1 65 = .ok (.aload_n 0, 1) := by decide +kernel
theorem d_Mo_attempt_66 : decode m_Mo_attempt.2.1 66 = .ok (.iload_n 2, 1) := by decide +kernel
theorem d_Mo_attempt_67 : decode m_Mo_attempt.2.1 67 = .ok (.invokevirtual 238, 3) := by decide +kernel
theorem d_Mo_attempt_70 : decode m_Mo_attempt.2.1 70 = .ok (.ifCond .eq 5, 3) := by decide +kernel
theorem d_Mo_attempt_73 : decode m_Mo_attempt.2.1 73 = .ok (.iconst 0, 1) := by decide +kernel
theorem d_Mo_attempt_74 : decode m_Mo_attempt.2.1 74 = .ok (.ireturn, 1) := by decide +kernel
theorem d_Mo_attempt_75 : decode m_Mo_attempt.2.1 75 = .ok (.aload_n 0, 1) := by decide +kernel
theorem d_Mo_attempt_76 : decode m_Mo_attempt.2.1 76 = .ok (.iload_n 2, 1) := by decide +kernel
theorem d_Mo_attempt_77 : decode m_Mo_attempt.2.1 77 = .ok (.iload_n 1, 1) := by decide +kernel
theorem d_Mo_attempt_78 : decode m_Mo_attempt.2.1 78 = .ok (.invokevirtual 241, 3) := by decide +kernel
theorem d_Mo_attempt_81 : decode m_Mo_attempt.2.1 81 = .ok (.ifCond .ne 5, 3) := by decide +kernel
theorem d_Mo_attempt_84 : decode m_Mo_attempt.2.1 84 = .ok (.iconst 0, 1) := by decide +kernel
theorem d_Mo_attempt_85 : decode m_Mo_attempt.2.1 85 = .ok (.ireturn, 1) := by decide +kernel
theorem d_Mo_attempt_86 : decode m_Mo_attempt.2.1 86 = .ok (.iinc 2 1, 3) := by decide +kernel
theorem d_Mo_attempt_89 : decode m_Mo_attempt.2.1 89 = .ok (.goto (-47), 3) := by decide +kernel
theorem d_Mo_attempt_92 : decode m_Mo_attempt.2.1 92 = .ok (.iconst 1, 1) := by decide +kernel
theorem d_Mo_attempt_93 : decode m_Mo_attempt.2.1 93 = .ok (.ireturn, 1) := by decide +kernel
theorem d_Mo_perform_0 : decode m_Mo_perform.2.1 0 = .ok (.aload_n 0, 1) := by decide +kernel
theorem d_Mo_perform_1 : decode m_Mo_perform.2.1 1 = .ok (.iload_n 1, 1) := by decide +kernel
theorem d_Mo_perform_2 : decode m_Mo_perform.2.1 2 = .ok (.invokevirtual 191, 3) := by decide +kernel
theorem d_Mo_perform_5 : decode m_Mo_perform.2.1 5 = .ok (.istore_n 3, 1) := by decide +kernel
theorem d_Mo_perform_6 : decode m_Mo_perform.2.1 6 = .ok (.aload_n 0, 1) := by decide +kernel
theorem d_Mo_perform_7 : decode m_Mo_perform.2.1 7 = .ok (.getfield 71, 3) := by decide +kernel
theorem d_Mo_perform_10 : decode m_Mo_perform.2.1 10 = .ok (.iload_n 1, 1) := by decide +kernel
theorem d_Mo_perform_11 : decode m_Mo_perform.2.1 11 = .ok (.iload_n 3, 1) := by decide +kernel
theorem d_Mo_perform_12 : decode m_Mo_perform.2.1 12 = .ok (.ifCond .ge 7, 3) := by decide +kernel
theorem d_Mo_perform_15 : decode m_Mo_perform.2.1 15 = .ok (.iconst 1, 1) := by decide +kernel
theorem d_Mo_perform_16 : decode m_Mo_perform.2.1 16 = .ok (.goto 16, 3) := by decide +kernel
theorem d_Mo_perform_19 : decode m_Mo_perform.2.1 19 = .ok (.aload_n 0, 1) := by decide +kernel
theorem d_Mo_perform_20 : decode m_Mo_perform.2.1 20 = .ok (.iload_n 3, 1) := by decide +kernel
theorem d_Mo_perform_21 : decode m_Mo_perform.2.1 21 = .ok (.invokevirtual 194, 3) := by decide +kernel
theorem d_Mo_perform_24 : decode m_Mo_perform.2.1 24 = .ok (.ifCond .eq 7, 3) := by decide +kernel
theorem d_Mo_perform_27 : decode m_Mo_perform.2.1 27 = .ok (.iconst 2, 1) := by decide +kernel
theorem d_Mo_perform_28 : decode m_Mo_perform.2.1 28 = .ok (.goto 4, 3) := by decide +kernel
theorem d_Mo_perform_31 : decode m_Mo_perform.2.1 31 = .ok (.iconst 3, 1) := by decide +kernel
theorem d_Mo_perform_32 : decode m_Mo_perform.2.1 32 = .ok (.iastore, 1) := by decide +kernel
theorem d_Mo_perform_33 : decode m_Mo_perform.2.1 33 = .ok (.iload_n 3, 1) := by decide +kernel
theorem d_Mo_perform_34 : decode m_Mo_perform.2.1 34 = .ok (.ifCond .ge 49, 3) := by decide +kernel
theorem d_Mo_perform_37 : decode m_Mo_perform.2.1 37 = .ok (.aload_n 0, 1) := by decide +kernel
theorem d_Mo_perform_38 : decode m_Mo_perform.2.1 38 = .ok (.iload_n 1, 1) := by decide +kernel
theorem d_Mo_perform_39 : decode m_Mo_perform.2.1 39 = .ok (.invokevirtual 197, 3) := by decide +kernel
theorem d_Mo_perform_42 : decode m_Mo_perform.2.1 42 = .ok (.istore 4, 2) := by decide +kernel
theorem d_Mo_perform_44 : decode m_Mo_perform.2.1 44 = .ok (.aload_n 0, 1) := by decide +kernel
theorem d_Mo_perform_45 : decode m_Mo_perform.2.1 45 = .ok (.getfield 74, 3) := by decide +kernel
theorem d_Mo_perform_48 : decode m_Mo_perform.2.1 48 = .ok (.iload_n 1, 1) := by decide +kernel
theorem d_Mo_perform_49 : decode m_Mo_perform.2.1 49 = .ok (.iload 4, 2) := by decide +kernel
theorem d_Mo_perform_51 : decode m_Mo_perform.2.1 51 = .ok (.ifCond .ge 8, 3) := by decide +kernel
theorem d_Mo_perform_54 : decode m_Mo_perform.2.1 54 = .ok (.bipush 12, 2) := by decide +kernel
theorem d_Mo_perform_56 : decode m_Mo_perform.2.1 56 = .ok (.goto 9, 3) := by decide +kernel
theorem d_Mo_perform_59 : decode m_Mo_perform.2.1 59 = .ok (.aload_n 0, 1) := by decide +kernel
theorem d_Mo_perform_60 : decode m_Mo_perform.2.1 60 = .ok (.iload 4, 2) := by decide +kernel
theorem d_Mo_perform_62 : decode m_Mo_perform.2.1 62 = .ok (.invokevirtual 185, 3) := by decide +kernel
theorem d_Mo_perform_65 : decode m_Mo_perform.2.1 65 = .ok (.iastore, 1) := by decide +kernel
theorem d_Mo_perform_66 : decode m_Mo_perform.2.1 66 = .ok (.aload_n 0, 1) := by decide +kernel
theorem d_Mo_perform_67 : decode m_Mo_perform.2.1 67 = .ok (.iload_n 1, 1) := by decide +kernel
theorem d_Mo_perform_68 : decode m_Mo_perform.2.1 68 = .ok (.invokevirtual 200, 3) := by decide +kernel
theorem d_Mo_perform_71 : decode m_Mo_perform.2.1 71 = .ok (.aload_n 0, 1) := by decide +kernel
theorem d_Mo_perform_72 : decode m_Mo_perform.2.1 72 = .ok (.iload_n 1, 1) := by decide +kernel
theorem d_Mo_perform_73 : decode m_Mo_perform.2.1 73 = .ok (.invokevirtual 203, 3) := by decide +kernel
theorem d_Mo_perform_76 : decode m_Mo_perform.2.1 76 = .ok (.aload_n 0, 1) := by decide +kernel
theorem d_Mo_perform_77 : decode m_Mo_perform.2.1 77 = .ok (.getfield 176, 3) := by decide +kernel
theorem d_Mo_perform_80 : decode m_Mo_perform.2.1 80 = .ok (.iconst 1, 1) := by decide +kernel
theorem d_Mo_perform_81 : decode m_Mo_perform.2.1 81 = .ok (.isub, 1) := by decide +kernel
theorem d_Mo_perform_82 : decode m_Mo_perform.2.1 82 = .ok (.istore_n 3, 1) := by decide +kernel
theorem d_Mo_perform_83 : decode m_Mo_perform.2.1 83 = .ok (.aload_n 0, 1) := by decide +kernel
theorem d_Mo_perform_84 : decode m_Mo_perform.2.1 84 = .ok (.getfield 77, 3) := by decide +kernel
theorem d_Mo_perform_87 : decode m_Mo_perform.2.1 87 = .ok (.iload_n 1, 1) := by decide +kernel
theorem d_Mo_perform_88 : decode m_Mo_perform.2.1 88 = .ok (.aload_n 0, 1) := by decide +kernel
theorem d_Mo_perform_89 : decode m_Mo_perform.2.1 89 = .ok (.getfield 37, 3) := by decide +kernel
theorem d_Mo_perform_92 : decode m_Mo_perform.2.1 92 = .ok (.iload_n 3, 1) := by decide +kernel
theorem d_Mo_perform_93 : decode m_Mo_perform.2.1 93 = .ok (.iaload, 1) := by decide +kernel
theorem d_Mo_perform_94 : decode m_Mo_perform.2.1 94 = .ok (.iastore, 1) := by decide +kernel
theorem d_Mo_perform_95 : decode m_Mo_perform.2.1 95 = .ok (.aload_n 0, 1) := by decide +kernel
theorem d_Mo_perform_96 : decode m_Mo_perform.2.1 96 = .ok (.getfield 80, 3) := by decide +kernel
theorem d_Mo_perform_99 : decode m_Mo_perform.2.1 99 = .ok (.iload_n 1, 1) := by decide +kernel
theorem d_Mo_perform_100 : decode m_Mo_perform.2.1 100 = .ok (.aload_n 0, 1) := by decide +kernel
theorem d_Mo_perform_101 : decode m_Mo_perform.2.1 101 = .ok (.getfield 40, 3) := by decide +kernel
theorem d_Mo_perform_104 : decode m_Mo_perform.2.1 104 = .ok (.iload_n 3, 1) := by decide +kernel
theorem d_Mo_perform_105 : decode m_Mo_perform.2.1 105 = .ok (.iaload, 1) := by decide +kernel
theorem d_Mo_perform_106 : decode m_Mo_perform.2.1 106 = .ok (.iastore, 1) := by decide +kernel
theorem d_Mo_perform_107 : decode m_Mo_perform.2.1 107 = .ok (.aload_n 0, 1) := by decide +kernel
theorem d_Mo_perform_108 : decode m_Mo_perform.2.1 108 = .ok (.getfield 83, 3) := by decide +kernel
theorem d_Mo_perform_111 : decode m_Mo_perform.2.1 111 = .ok (.iload_n 1, 1) := by decide +kernel
theorem d_Mo_perform_112 : decode m_Mo_perform.2.1 112 = .ok (.aload_n 0, 1) := by decide +kernel
theorem d_Mo_perform_113 : decode m_Mo_perform.2.1 113 = .ok (.getfield 52, 3) := by decide +kernel
theorem d_Mo_perform_116 : decode m_Mo_perform.2.1 116 = .ok (.iload_n 3, 1) := by decide +kernel
theorem d_Mo_perform_117 : decode m_Mo_perform.2.1 117 = .ok (.iaload, 1) := by decide +kernel
theorem d_Mo_perform_118 : decode m_Mo_perform.2.1 118 = .ok (.iastore, 1) := by decide +kernel
theorem d_Mo_perform_119 : decode m_Mo_perform.2.1 119 = .ok (.aload_n 0, 1) := by decide +kernel
theorem d_Mo_perform_120 : decode m_Mo_perform.2.1 120 = .ok (.getfield 83, 3) := by decide +kernel
theorem d_Mo_perform_123 : decode m_Mo_perform.2.1 123 = .ok (.iload_n 1, 1) := by decide +kernel
theorem d_Mo_perform_124 : decode m_Mo_perform.2.1 124 = .ok (.iaload, 1) := by decide +kernel
theorem d_Mo_perform_125 : decode m_Mo_perform.2.1 125 = .ok (.ifCond .lt 21, 3) := by decide +kernel
theorem d_Mo_perform_128 : decode m_Mo_perform.2.1 128 = .ok (.aload_n 0, 1) := by decide +kernel
theorem d_Mo_perform_129 : decode m_Mo_perform.2.1 129 = .ok (.getfield 7, 3) := by decide +kernel
theorem d_Mo_perform_132 : decode m_Mo_perform.2.1 132 = .ok (.aload_n 0, 1) := by decide +kernel
theorem d_Mo_perform_133 : decode m_Mo_perform.2.1 133 = .ok (.getfield 83, 3) := by decide +kernel
theorem d_Mo_perform_136 : decode m_Mo_perform.2.1 136 = .ok (.iload_n 1, 1) := by decide +kernel
theorem d_Mo_perform_137 : decode m_Mo_perform.2.1 137 = .ok (.iaload, 1) := by decide +kernel
theorem d_Mo_perform_138 : decode m_Mo_perform.2.1 138 = .ok (.iaload, 1) := by decide +kernel
theorem d_Mo_perform_139 : decode m_Mo_perform.2.1 139 = .ok (.ifCond .lt 7, 3) := by decide +kernel
theorem d_Mo_perform_142 : decode m_Mo_perform.2.1 142 = .ok (.iconst 1, 1) := by decide +kernel
theorem d_Mo_perform_143 : decode m_Mo_perform.2.1 143 = .ok (.goto 4, 3) := by decide +kernel
theorem d_Mo_perform_146 : decode m_Mo_perform.2.1 146 = .ok (.iconst 0, 1) := by decide +kernel
theorem d_Mo_perform_147 : decode m_Mo_perform.2.1 147 = .ok (.istore 4, 2) := by decide +kernel
theorem d_Mo_perform_149 : decode m_Mo_perform.2.1 149 = .ok (.aload_n 0, 1) := by decide +kernel
theorem d_Mo_perform_150 : decode m_Mo_perform.2.1 150 = .ok (.iload_n 3, 1) := by decide +kernel
theorem d_Mo_perform_151 : decode m_Mo_perform.2.1 151 = .ok (.invokevirtual 206, 3) := by decide +kernel
theorem d_Mo_perform_154 : decode m_Mo_perform.2.1 154 = .ok (.aload_n 0, 1) := by decide +kernel
theorem d_Mo_perform_155 : decode m_Mo_perform.2.1 155 = .ok (.getfield 86, 3) := by decide +kernel
theorem d_Mo_perform_158 : decode m_Mo_perform.2.1 158 = .ok (.iload_n 1, 1) := by decide +kernel
theorem d_Mo_perform_159 : decode m_Mo_perform.2.1 159 = .ok (.aload_n 0, 1) := by decide +kernel
theorem d_Mo_perform_160 : decode m_Mo_perform.2.1 160 = .ok (.getfield 83, 3) := by decide +kernel
theorem d_Mo_perform_163 : decode m_Mo_perform.2.1 163 = .ok (.iload_n 1, 1) := by decide +kernel
theorem d_Mo_perform_164 : decode m_Mo_perform.2.1 164 = .ok (.iaload, 1) := by decide +kernel
theorem d_Mo_perform_165 : decode m_Mo_perform.2.1 165 = .ok (.ifCond .lt 31, 3) := by decide +kernel
theorem d_Mo_perform_168 : decode m_Mo_perform.2.1 168 = .ok (.iload 4, 2) := by decide +kernel
theorem d_Mo_perform_170 : decode m_Mo_perform.2.1 170 = .ok (.aload_n 0, 1) := by decide +kernel
theorem d_Mo_perform_171 : decode m_Mo_perform.2.1 171 = .ok (.getfield 7, 3) := by decide +kernel
theorem d_Mo_perform_174 : decode m_Mo_perform.2.1 174 = .ok (.aload_n 0, 1) := by decide +kernel
theorem d_Mo_perform_175 : decode m_Mo_perform.2.1 175 = .ok (.getfield 83, 3) := by decide +kernel
theorem d_Mo_perform_178 : decode m_Mo_perform.2.1 178 = .ok (.iload_n 1, 1) := by decide +kernel
theorem d_Mo_perform_179 : decode m_Mo_perform.2.1 179 = .ok (.iaload, 1) := by decide +kernel
theorem d_Mo_perform_180 : decode m_Mo_perform.2.1 180 = .ok (.iaload, 1) := by decide +kernel
theorem d_Mo_perform_181 : decode m_Mo_perform.2.1 181 = .ok (.ifCond .lt 7, 3) := by decide +kernel
theorem d_Mo_perform_184 : decode m_Mo_perform.2.1 184 = .ok (.iconst 1, 1) := by decide +kernel
theorem d_Mo_perform_185 : decode m_Mo_perform.2.1 185 = .ok (.goto 4, 3) := by decide +kernel
theorem d_Mo_perform_188 : decode m_Mo_perform.2.1 188 = .ok (.iconst 0, 1) := by decide +kernel
theorem d_Mo_perform_189 : decode m_Mo_perform.2.1 189 = .ok (.if_icmp .eq 7, 3) := by decide +kernel
theorem d_Mo_perform_192 : decode m_Mo_perform.2.1 192 = .ok (.iconst 1, 1) := by decide +kernel
theorem d_Mo_perform_193 : decode m_Mo_perform.2.1 193 = .ok (.goto 4, 3) := by decide +kernel
theorem d_Mo_perform_196 : decode m_Mo_perform.2.1 196 = .ok (.iconst 0, 1) := by decide +kernel
theorem d_Mo_perform_197 : decode m_Mo_perform.2.1 197 = .ok (.bastore, 1) := by decide +kernel
theorem d_Mo_perform_198 : decode m_Mo_perform.2.1 198 = .ok (.aload_n 0, 1) := by decide +kernel
theorem d_Mo_perform_199 : decode m_Mo_perform.2.1 199 = .ok (.getfield 64, 3) := by decide +kernel
theorem d_Mo_perform_202 : decode m_Mo_perform.2.1 202 = .ok (.iload_n 1, 1) := by decide +kernel
theorem d_Mo_perform_203 : decode m_Mo_perform.2.1 203 = .ok (.iconst 1, 1) := by decide +kernel
theorem d_Mo_perform_204 : decode m_Mo_perform.2.1 204 = .ok (.bastore, 1) := by decide +kernel
theorem d_Mo_perform_205 : decode m_Mo_perform.2.1 205 = .ok (.aload_n 0, 1) := by decide +kernel
theorem d_Mo_perform_206 : decode m_Mo_perform.2.1 206 = .ok (.getfield 68, 3) := by decide +kernel
theorem d_Mo_perform_209 : decode m_Mo_perform.2.1 209 = .ok (.iload_n 1, 1) := by decide +kernel
theorem d_Mo_perform_210 : decode m_Mo_perform.2.1 210 = .ok (.iload_n 2, 1) := by decide +kernel
theorem d_Mo_perform_211 : decode m_Mo_perform.2.1 211 = .ok (.bastore, 1) := by decide +kernel
theorem d_Mo_perform_212 : decode m_Mo_perform.2.1 212 = .ok (.return_, 1) := by decide +kernel
theorem d_Mo_fitting_0 : decode m_Mo_fitting.2.1 0 = .ok (.aload_n 0, 1) := by decide +kernel
theorem d_Mo_fitting_1 : decode m_Mo_fitting.2.1 1 = .ok (.getfield 176, 3) := by decide +kernel
theorem d_Mo_fitting_4 : decode m_Mo_fitting.2.1 4 = .ok (.iconst 1, 1) := by decide +kernel
theorem d_Mo_fitting_5 : decode m_Mo_fitting.2.1 5 = .ok (.isub, 1) := by decide +kernel
theorem d_Mo_fitting_6 : decode m_Mo_fitting.2.1 6 = .ok (.istore_n 2, 1) := by decide +kernel
theorem d_Mo_fitting_7 : decode m_Mo_fitting.2.1 7 = .ok (.iload_n 2, 1) := by decide +kernel
theorem d_Mo_fitting_8 : decode m_Mo_fitting.2.1 8 = .ok (.ifCond .lt 26, 3) := by decide +kernel
theorem d_Mo_fitting_11 : decode m_Mo_fitting.2.1 11 = .ok (.aload_n 0, 1) := by decide +kernel
theorem d_Mo_fitting_12 : decode m_Mo_fitting.2.1 12 = .ok (.iload_n 2, 1) := by decide +kernel
theorem d_Mo_fitting_13 : decode m_Mo_fitting.2.1 13 = .ok (.iload_n 1, 1) := by decide +kernel
theorem d_Mo_fitting_14 : decode m_Mo_fitting.2.1 14 = .ok (.invokevirtual 179, 3) := by decide +kernel
theorem d_Mo_fitting_17 : decode m_Mo_fitting.2.1 17 = .ok (.ifCond .eq 11, 3) := by decide +kernel
theorem d_Mo_fitting_20 : decode m_Mo_fitting.2.1 20 = .ok (.aload_n 0, 1) := by decide +kernel
theorem d_Mo_fitting_21 : decode m_Mo_fitting.2.1 21 = .ok (.iload_n 2, 1) := by decide +kernel
theorem d_Mo_fitting_22 : decode m_Mo_fitting.2.1 22 = .ok (.invokevirtual 185, 3) := by decide +kernel
theorem d_Mo_fitting_25 : decode m_Mo_fitting.2.1 25 = .ok (.ifCond .lt 9, 3) := by decide +kernel
theorem d_Mo_fitting_28 : decode m_Mo_fitting.2.1 28 = .ok (.iinc 2 (-1), 3) := by decide +kernel
theorem d_Mo_fitting_31 : decode m_Mo_fitting.2.1 31 = .ok (.goto (-24), 3) := by decide +kernel
theorem d_Mo_fitting_34 : decode m_Mo_fitting.2.1 34 = .ok (.iload_n 2, 1) := by decide +kernel
theorem d_Mo_fitting_35 : decode m_Mo_fitting.2.1 35 = .ok (.ireturn, 1) := by decide +kernel
theorem d_Mo_isOf_0 : decode m_Mo_isOf.2.1 0 = .ok (.aload_n 0, 1) := by decide +kernel
theorem d_Mo_isOf_1 : decode m_Mo_isOf.2.1 1 = .ok (.getfield 31, 3) := by decide +kernel
theorem d_Mo_isOf_4 : decode m_Mo_isOf.2.1 4 = .ok (.iload_n 1, 1) := by decide +kernel
theorem d_Mo_isOf_5 : decode m_Mo_isOf.2.1 5 = .ok (.iaload, 1) := by decide +kernel
theorem d_Mo_isOf_6 : decode m_Mo_isOf.2.1 6 = .ok (.aload_n 0, 1) := by decide +kernel
theorem d_Mo_isOf_7 : decode m_Mo_isOf.2.1 7 = .ok (.getfield 25, 3) := by decide +kernel
theorem d_Mo_isOf_10 : decode m_Mo_isOf.2.1 10 = .ok (.iload_n 2, 1) := by decide +kernel
theorem d_Mo_isOf_11 : decode m_Mo_isOf.2.1 11 = .ok (.iaload, 1) := by decide +kernel
theorem d_Mo_isOf_12 : decode m_Mo_isOf.2.1 12 = .ok (.if_icmp .ne 7, 3) := by decide +kernel
theorem d_Mo_isOf_15 : decode m_Mo_isOf.2.1 15 = .ok (.iconst 1, 1) := by decide +kernel
theorem d_Mo_isOf_16 : decode m_Mo_isOf.2.1 16 = .ok (.goto 4, 3) := by decide +kernel
theorem d_Mo_isOf_19 : decode m_Mo_isOf.2.1 19 = .ok (.iconst 0, 1) := by decide +kernel
theorem d_Mo_isOf_20 : decode m_Mo_isOf.2.1 20 = .ok (.istore_n 3, 1) := by decide +kernel
theorem d_Mo_isOf_21 : decode m_Mo_isOf.2.1 21 = .ok (.iconst 0, 1) := by decide +kernel
theorem d_Mo_isOf_22 : decode m_Mo_isOf.2.1 22 = .ok (.istore 4, 2) := by decide +kernel
theorem d_Mo_isOf_24 : decode m_Mo_isOf.2.1 24 = .ok (.iload 4, 2) := by decide +kernel
theorem d_Mo_isOf_26 : decode m_Mo_isOf.2.1 26 = .ok (.aload_n 0, 1) := by decide +kernel
theorem d_Mo_isOf_27 : decode m_Mo_isOf.2.1 27 = .ok (.getfield 25, 3) := by decide +kernel
theorem d_Mo_isOf_30 : decode m_Mo_isOf.2.1 30 = .ok (.iload_n 2, 1) := by decide +kernel
theorem d_Mo_isOf_31 : decode m_Mo_isOf.2.1 31 = .ok (.iaload, 1) := by decide +kernel
theorem d_Mo_isOf_32 : decode m_Mo_isOf.2.1 32 = .ok (.if_icmp .ge 46, 3) := by decide +kernel
theorem d_Mo_isOf_35 : decode m_Mo_isOf.2.1 35 = .ok (.iload_n 3, 1) := by decide +kernel
theorem d_Mo_isOf_36 : decode m_Mo_isOf.2.1 36 = .ok (.ifCond .eq 42, 3) := by decide +kernel
theorem d_Mo_isOf_39 : decode m_Mo_isOf.2.1 39 = .ok (.aload_n 0, 1) := by decide +kernel
theorem d_Mo_isOf_40 : decode m_Mo_isOf.2.1 40 = .ok (.getfield 34, 3) := by decide +kernel
theorem d_Mo_isOf_43 : decode m_Mo_isOf.2.1 43 = .ok (.bipush 12, 2) := by decide +kernel
theorem d_Mo_isOf_45 : decode m_Mo_isOf.2.1 45 = .ok (.iload_n 1, 1) := by decide +kernel
theorem d_Mo_isOf_46 : decode m_Mo_isOf.2.1 46 = .ok (.imul, 1) := by decide +kernel
theorem d_Mo_isOf_47 : decode m_Mo_isOf.2.1 47 = .ok (.iload 4, 2) := by decide +kernel
theorem d_Mo_isOf_49 : decode m_Mo_isOf.2.1 49 = .ok (.iadd, 1) := by decide +kernel
theorem d_Mo_isOf_50 : decode m_Mo_isOf.2.1 50 = .ok (.iaload, 1) := by decide +kernel
theorem d_Mo_isOf_51 : decode m_Mo_isOf.2.1 51 = .ok (.aload_n 0, 1) := by decide +kernel
theorem d_Mo_isOf_52 : decode m_Mo_isOf.2.1 52 = .ok (.getfield 28, 3) := by decide +kernel
theorem d_Mo_isOf_55 : decode m_Mo_isOf.2.1 55 = .ok (.bipush 12, 2) := by decide +kernel
theorem d_Mo_isOf_57 : decode m_Mo_isOf.2.1 57 = .ok (.iload_n 2, 1) := by decide +kernel
theorem d_Mo_isOf_58 : decode m_Mo_isOf.2.1 58 = .ok (.imul, 1) := by decide +kernel
theorem d_Mo_isOf_59 : decode m_Mo_isOf.2.1 59 = .ok (.iload 4, 2) := by decide +kernel
theorem d_Mo_isOf_61 : decode m_Mo_isOf.2.1 61 = .ok (.iadd, 1) := by decide +kernel
theorem d_Mo_isOf_62 : decode m_Mo_isOf.2.1 62 = .ok (.iaload, 1) := by decide +kernel
theorem d_Mo_isOf_63 : decode m_Mo_isOf.2.1 63 = .ok (.if_icmp .ne 7, 3) := by decide +kernel
theorem d_Mo_isOf_66 : decode m_Mo_isOf.2.1 66 = .ok (.iconst 1, 1) := by decide +kernel
theorem d_Mo_isOf_67 : decode m_Mo_isOf.2.1 67 = .ok (.goto 4, 3) := by decide +kernel
theorem d_Mo_isOf_70 : decode m_Mo_isOf.2.1 70 = .ok (.iconst 0, 1) := by decide +kernel
theorem d_Mo_isOf_71 : decode m_Mo_isOf.2.1 71 = .ok (.istore_n 3, 1) := by decide +kernel
theorem d_Mo_isOf_72 : decode m_Mo_isOf.2.1 72 = .ok (.iinc 4 1, 3) := by decide +kernel
theorem d_Mo_isOf_75 : decode m_Mo_isOf.2.1 75 = .ok (.goto (-51), 3) := by decide +kernel
theorem d_Mo_isOf_78 : decode m_Mo_isOf.2.1 78 = .ok (.iload_n 3, 1) := by decide +kernel
theorem d_Mo_isOf_79 : decode m_Mo_isOf.2.1 79 = .ok (.ireturn, 1) := by decide +kernel
theorem d_Mo_changedFor_0 : decode m_Mo_changedFor.2.1 0 = .ok (.iconst 0, 1) := by decide +kernel
theorem d_Mo_changedFor_1 : decode m_Mo_changedFor.2.1 1 = .ok (.istore_n 2, 1) := by decide +kernel
theorem d_Mo_changedFor_2 : decode m_Mo_changedFor.2.1 2 = .ok (.iload_n 2, 1) := by decide +kernel
theorem d_Mo_changedFor_3 : decode m_Mo_changedFor.2.1 3 = .ok (.bipush 12, 2) := by decide +kernel
theorem d_Mo_changedFor_5 : decode m_Mo_changedFor.2.1 5 = .ok (.if_icmp .ge 34, 3) := by decide +kernel
theorem d_Mo_changedFor_8 : decode m_Mo_changedFor.2.1 8 = .ok (.aload_n 0, 1) := by decide +kernel
theorem d_Mo_changedFor_9 : decode m_Mo_changedFor.2.1 9 = .ok (.getfield 37, 3) := by decide +kernel
theorem d_Mo_changedFor_12 : decode m_Mo_changedFor.2.1 12 = .ok (.iload_n 1, 1) := by decide +kernel
theorem d_Mo_changedFor_13 : decode m_Mo_changedFor.2.1 13 = .ok (.iaload, 1) := by decide +kernel
theorem d_Mo_changedFor_14 : decode m_Mo_changedFor.2.1 14 = .ok (.iload_n 2, 1) := by decide +kernel
theorem d_Mo_changedFor_15 : decode m_Mo_changedFor.2.1 15 = .ok (.ishr, 1) := by decide +kernel
theorem d_Mo_changedFor_16 : decode m_Mo_changedFor.2.1 16 = .ok (.iconst 1, 1) := by decide +kernel
theorem d_Mo_changedFor_17 : decode m_Mo_changedFor.2.1 17 = .ok (.iand, 1) := by decide +kernel
theorem d_Mo_changedFor_18 : decode m_Mo_changedFor.2.1 18 = .ok (.iconst 1, 1) := by decide +kernel
theorem d_Mo_changedFor_19 : decode m_Mo_changedFor.2.1 19 = .ok (.if_icmp .ne 14, 3) := by decide +kernel
theorem d_Mo_changedFor_22 : decode m_Mo_changedFor.2.1 22 = .ok (.aload_n 0, 1) := by decide +kernel
theorem d_Mo_changedFor_23 : decode m_Mo_changedFor.2.1 23 = .ok (.iload_n 1, 1) := by decide +kernel
theorem d_Mo_changedFor_24 : decode m_Mo_changedFor.2.1 24 = .ok (.iload_n 2, 1) := by decide +kernel
theorem d_Mo_changedFor_25 : decode m_Mo_changedFor.2.1 25 = .ok (.invokevirtual 182, 3) := by decide +kernel
theorem d_Mo_changedFor_28 : decode m_Mo_changedFor.2.1 28 = .ok (.ifCond .ne 5, 3) := by decide +kernel
theorem d_Mo_changedFor_31 : decode m_Mo_changedFor.2.1 31 = .ok (.iload_n 2, 1) := by decide +kernel
theorem d_Mo_changedFor_32 : decode m_Mo_changedFor.2.1 32 = .ok (.ireturn, 1) := by decide +kernel
theorem d_Mo_changedFor_33 : decode m_Mo_changedFor.2.1 33 = .ok (.iinc 2 1, 3) := by decide +kernel
theorem d_Mo_changedFor_36 : decode m_Mo_changedFor.2.1 36 = .ok (.goto (-34), 3) := by decide +kernel
theorem d_Mo_changedFor_39 : decode m_Mo_changedFor.2.1 39 = .ok (.iconst 0, 1) := by decide +kernel
theorem d_Mo_changedFor_40 : decode m_Mo_changedFor.2.1 40 = .ok (.istore_n 2, 1) := by decide +kernel
theorem d_Mo_changedFor_41 : decode m_Mo_changedFor.2.1 41 = .ok (.iload_n 2, 1) := by decide +kernel
theorem d_Mo_changedFor_42 : decode m_Mo_changedFor.2.1 42 = .ok (.bipush 12, 2) := by decide +kernel
theorem d_Mo_changedFor_44 : decode m_Mo_changedFor.2.1 44 = .ok (.if_icmp .ge 63, 3) := by decide +kernel
theorem d_Mo_changedFor_47 : decode m_Mo_changedFor.2.1 47 = .ok (.aload_n 0, 1) := by decide +kernel
theorem d_Mo_changedFor_48 : decode m_Mo_changedFor.2.1 48 = .ok (.getfield 43, 3) := by decide +kernel
theorem d_Mo_changedFor_51 : decode m_Mo_changedFor.2.1 51 = .ok (.iload_n 1, 1) := by decide +kernel
theorem d_Mo_changedFor_52 : decode m_Mo_changedFor.2.1 52 = .ok (.iaload, 1) := by decide +kernel
theorem d_Mo_changedFor_53 : decode m_Mo_changedFor.2.1 53 = .ok (.iload_n 2, 1) := by decide +kernel
theorem d_Mo_changedFor_54 : decode m_Mo_changedFor.2.1 54 = .ok (.ishr, 1) := by decide +kernel
theorem d_Mo_changedFor_55 : decode m_Mo_changedFor.2.1 55 = .ok (.iconst 1, 1) := by decide +kernel
theorem d_Mo_changedFor_56 : decode m_Mo_changedFor.2.1 56 = .ok (.iand, 1) := by decide +kernel
theorem d_Mo_changedFor_57 : decode m_Mo_changedFor.2.1 57 = .ok (.iconst 1, 1) := by decide +kernel
theorem d_Mo_changedFor_58 : decode m_Mo_changedFor.2.1 58 = .ok (.if_icmp .ne 7, 3) := by decide +kernel
theorem d_Mo_changedFor_61 : decode m_Mo_changedFor.2.1 61 = .ok (.iconst 1, 1) := by decide +kernel
theorem d_Mo_changedFor_62 : decode m_Mo_changedFor.2.1 62 = .ok (.goto 4, 3) := by decide +kernel
theorem d_Mo_changedFor_65 : decode m_Mo_changedFor.2.1 65 = .ok (.iconst 0, 1) := by decide +kernel
theorem d_Mo_changedFor_66 : decode m_Mo_changedFor.2.1 66 = .ok (.istore_n 3, 1) := by decide +kernel
theorem d_Mo_changedFor_67 : decode m_Mo_changedFor.2.1 67 = .ok (.aload_n 0, 1) := by decide +kernel
theorem d_Mo_changedFor_68 : decode m_Mo_changedFor.2.1 68 = .ok (.getfield 40, 3) := by decide +kernel
theorem d_Mo_changedFor_71 : decode m_Mo_changedFor.2.1 71 = .ok (.iload_n 1, 1) := by decide +kernel
theorem d_Mo_changedFor_72 : decode m_Mo_changedFor.2.1 72 = .ok (.iaload, 1) := by decide +kernel
theorem d_Mo_changedFor_73 : decode m_Mo_changedFor.2.1 73 = .ok (.iload_n 2, 1) := by decide +kernel
theorem d_Mo_changedFor_74 : decode m_Mo_changedFor.2.1 74 = .ok (.ishr, 1) := by decide +kernel
theorem d_Mo_changedFor_75 : decode m_Mo_changedFor.2.1 75 = .ok (.iconst 1, 1) := by decide +kernel
theorem d_Mo_changedFor_76 : decode m_Mo_changedFor.2.1 76 = .ok (.iand, 1) := by decide +kernel
theorem d_Mo_changedFor_77 : decode m_Mo_changedFor.2.1 77 = .ok (.iconst 1, 1) := by decide +kernel
theorem d_Mo_changedFor_78 : decode m_Mo_changedFor.2.1 78 = .ok (.if_icmp .ne 23, 3) := by decide +kernel
theorem d_Mo_changedFor_81 : decode m_Mo_changedFor.2.1 81 = .ok (.iload_n 3, 1) := by decide +kernel
theorem d_Mo_changedFor_82 : decode m_Mo_changedFor.2.1 82 = .ok (.aload_n 0, 1) := by decide +kernel
theorem d_Mo_changedFor_83 : decode m_Mo_changedFor.2.1 83 = .ok (.getfield 7, 3) := by decide +kernel
theorem d_Mo_changedFor_86 : decode m_Mo_changedFor.2.1 86 = .ok (.iload_n 2, 1) := by decide +kernel
theorem d_Mo_changedFor_87 : decode m_Mo_changedFor.2.1 87 = .ok (.iaload, 1) := by decide +kernel
theorem d_Mo_changedFor_88 : decode m_Mo_changedFor.2.1 88 = .ok (.ifCond .lt 7, 3) := by decide +kernel
theorem d_Mo_changedFor_91 : decode m_Mo_changedFor.2.1 91 = .ok (.iconst 1, 1) := by decide +kernel
theorem d_Mo_changedFor_92 : decode m_Mo_changedFor.2.1 92 = .ok (.goto 4, 3) := by decide +kernel
theorem d_Mo_changedFor_95 : decode m_Mo_changedFor.2.1 95 = .ok (.iconst 0, 1) := by decide +kernel
theorem d_Mo_changedFor_96 : decode m_Mo_changedFor.2.1 96 = .ok (.if_icmp .eq 5, 3) := by decide +kernel
theorem d_Mo_changedFor_99 : decode m_Mo_changedFor.2.1 99 = .ok (.iload_n 2, 1) := by decide +kernel
theorem d_Mo_changedFor_100 : decode m_Mo_changedFor.2.1 100 = .ok (.ireturn, 1) := by decide +kernel
theorem d_Mo_changedFor_101 : decode m_Mo_changedFor.2.1 101 = .ok (.iinc 2 1, 3) := by decide +kernel
theorem d_Mo_changedFor_104 : decode m_Mo_changedFor.2.1 104 = .ok (.goto (-63), 3) := by decide +kernel
theorem d_Mo_changedFor_107 : decode m_Mo_changedFor.2.1 107 = .ok (.iconst (-1), 1) := by decide +kernel
theorem d_Mo_changedFor_108 : decode m_Mo_changedFor.2.1 108 = .ok (.ireturn, 1) := by decide +kernel
theorem d_Mo_isAsRead_0 : decode m_Mo_isAsRead.2.1 0 = .ok (.aload_n 0, 1) := by decide +kernel
theorem d_Mo_isAsRead_1 : decode m_Mo_isAsRead.2.1 1 = .ok (.getfield 46, 3) := by decide +kernel
theorem d_Mo_isAsRead_4 : decode m_Mo_isAsRead.2.1 4 = .ok (.bipush 12, 2) := by decide +kernel
theorem d_Mo_isAsRead_6 : decode m_Mo_isAsRead.2.1 6 = .ok (.iload_n 1, 1) := by decide +kernel
theorem d_Mo_isAsRead_7 : decode m_Mo_isAsRead.2.1 7 = .ok (.imul, 1) := by decide +kernel
theorem d_Mo_isAsRead_8 : decode m_Mo_isAsRead.2.1 8 = .ok (.iload_n 2, 1) := by decide +kernel
theorem d_Mo_isAsRead_9 : decode m_Mo_isAsRead.2.1 9 = .ok (.iadd, 1) := by decide +kernel
theorem d_Mo_isAsRead_10 : decode m_Mo_isAsRead.2.1 10 = .ok (.iaload, 1) := by decide +kernel
theorem d_Mo_isAsRead_11 : decode m_Mo_isAsRead.2.1 11 = .ok (.aload_n 0, 1) := by decide +kernel
theorem d_Mo_isAsRead_12 : decode m_Mo_isAsRead.2.1 12 = .ok (.getfield 7, 3) := by decide +kernel
theorem d_Mo_isAsRead_15 : decode m_Mo_isAsRead.2.1 15 = .ok (.iload_n 2, 1) := by decide +kernel
theorem d_Mo_isAsRead_16 : decode m_Mo_isAsRead.2.1 16 = .ok (.iaload, 1) := by decide +kernel
theorem d_Mo_isAsRead_17 : decode m_Mo_isAsRead.2.1 17 = .ok (.if_icmp .ne 7, 3) := by decide +kernel
theorem d_Mo_isAsRead_20 : decode m_Mo_isAsRead.2.1 20 = .ok (.iconst 1, 1) := by decide +kernel
theorem d_Mo_isAsRead_21 : decode m_Mo_isAsRead.2.1 21 = .ok (.goto 4, 3) := by decide +kernel
theorem d_Mo_isAsRead_24 : decode m_Mo_isAsRead.2.1 24 = .ok (.iconst 0, 1) := by decide +kernel
theorem d_Mo_isAsRead_25 : decode m_Mo_isAsRead.2.1 25 = .ok (.istore_n 3, 1) := by decide +kernel
theorem d_Mo_isAsRead_26 : decode m_Mo_isAsRead.2.1 26 = .ok (.iconst 0, 1) := by decide +kernel
theorem d_Mo_isAsRead_27 : decode m_Mo_isAsRead.2.1 27 = .ok (.istore 4, 2) := by decide +kernel
theorem d_Mo_isAsRead_29 : decode m_Mo_isAsRead.2.1 29 = .ok (.iload 4, 2) := by decide +kernel
theorem d_Mo_isAsRead_31 : decode m_Mo_isAsRead.2.1 31 = .ok (.aload_n 0, 1) := by decide +kernel
theorem d_Mo_isAsRead_32 : decode m_Mo_isAsRead.2.1 32 = .ok (.getfield 7, 3) := by decide +kernel
theorem d_Mo_isAsRead_35 : decode m_Mo_isAsRead.2.1 35 = .ok (.iload_n 2, 1) := by decide +kernel
theorem d_Mo_isAsRead_36 : decode m_Mo_isAsRead.2.1 36 = .ok (.iaload, 1) := by decide +kernel
theorem d_Mo_isAsRead_37 : decode m_Mo_isAsRead.2.1 37 = .ok (.if_icmp .ge 51, 3) := by decide +kernel
theorem d_Mo_isAsRead_40 : decode m_Mo_isAsRead.2.1 40 = .ok (.iload_n 3, 1) := by decide +kernel
theorem d_Mo_isAsRead_41 : decode m_Mo_isAsRead.2.1 41 = .ok (.ifCond .eq 47, 3) := by decide +kernel
theorem d_Mo_isAsRead_44 : decode m_Mo_isAsRead.2.1 44 = .ok (.aload_n 0, 1) := by decide +kernel
theorem d_Mo_isAsRead_45 : decode m_Mo_isAsRead.2.1 45 = .ok (.getfield 49, 3) := by decide +kernel
theorem d_Mo_isAsRead_48 : decode m_Mo_isAsRead.2.1 48 = .ok (.bipush 6, 2) := by decide +kernel
theorem d_Mo_isAsRead_50 : decode m_Mo_isAsRead.2.1 50 = .ok (.bipush 12, 2) := by decide +kernel
theorem d_Mo_isAsRead_52 : decode m_Mo_isAsRead.2.1 52 = .ok (.iload_n 1, 1) := by decide +kernel
theorem d_Mo_isAsRead_53 : decode m_Mo_isAsRead.2.1 53 = .ok (.imul, 1) := by decide +kernel
theorem d_Mo_isAsRead_54 : decode m_Mo_isAsRead.2.1 54 = .ok (.iload_n 2, 1) := by decide +kernel
theorem d_Mo_isAsRead_55 : decode m_Mo_isAsRead.2.1 55 = .ok (.iadd, 1) := by decide +kernel
theorem d_Mo_isAsRead_56 : decode m_Mo_isAsRead.2.1 56 = .ok (.imul, 1) := by decide +kernel
theorem d_Mo_isAsRead_57 : decode m_Mo_isAsRead.2.1 57 = .ok (.iload 4, 2) := by decide +kernel
theorem d_Mo_isAsRead_59 : decode m_Mo_isAsRead.2.1 59 = .ok (.iadd, 1) := by decide +kernel
theorem d_Mo_isAsRead_60 : decode m_Mo_isAsRead.2.1 60 = .ok (.iaload, 1) := by decide +kernel
theorem d_Mo_isAsRead_61 : decode m_Mo_isAsRead.2.1 61 = .ok (.aload_n 0, 1) := by decide +kernel
theorem d_Mo_isAsRead_62 : decode m_Mo_isAsRead.2.1 62 = .ok (.getfield 13, 3) := by decide +kernel
theorem d_Mo_isAsRead_65 : decode m_Mo_isAsRead.2.1 65 = .ok (.bipush 6, 2) := by decide +kernel
theorem d_Mo_isAsRead_67 : decode m_Mo_isAsRead.2.1 67 = .ok (.iload_n 2, 1) := by decide +kernel
theorem d_Mo_isAsRead_68 : decode m_Mo_isAsRead.2.1 68 = .ok (.imul, 1) := by decide +kernel
theorem d_Mo_isAsRead_69 : decode m_Mo_isAsRead.2.1 69 = .ok (.iload 4, 2) := by decide +kernel
theorem d_Mo_isAsRead_71 : decode m_Mo_isAsRead.2.1 71 = .ok (.iadd, 1) := by decide +kernel
theorem d_Mo_isAsRead_72 : decode m_Mo_isAsRead.2.1 72 = .ok (.iaload, 1) := by decide +kernel
theorem d_Mo_isAsRead_73 : decode m_Mo_isAsRead.2.1 73 = .ok (.if_icmp .ne 7, 3) := by decide +kernel
theorem d_Mo_isAsRead_76 : decode m_Mo_isAsRead.2.1 76 = .ok (.iconst 1, 1) := by decide +kernel
theorem d_Mo_isAsRead_77 : decode m_Mo_isAsRead.2.1 77 = .ok (.goto 4, 3) := by decide +kernel
theorem d_Mo_isAsRead_80 : decode m_Mo_isAsRead.2.1 80 = .ok (.iconst 0, 1) := by decide +kernel
theorem d_Mo_isAsRead_81 : decode m_Mo_isAsRead.2.1 81 = .ok (.istore_n 3, 1) := by decide +kernel
theorem d_Mo_isAsRead_82 : decode m_Mo_isAsRead.2.1 82 = .ok (.iinc 4 1, 3) := by decide +kernel
theorem d_Mo_isAsRead_85 : decode m_Mo_isAsRead.2.1 85 = .ok (.goto (-56), 3) := by decide +kernel
theorem d_Mo_isAsRead_88 : decode m_Mo_isAsRead.2.1 88 = .ok (.iload_n 3, 1) := by decide +kernel
theorem d_Mo_isAsRead_89 : decode m_Mo_isAsRead.2.1 89 = .ok (.ireturn, 1) := by decide +kernel
theorem d_Mo_isWritten_0 : decode m_Mo_isWritten.2.1 0 = .ok (.aload_n 0, 1) := by decide +kernel
theorem d_Mo_isWritten_1 : decode m_Mo_isWritten.2.1 1 = .ok (.getfield 52, 3) := by decide +kernel
theorem d_Mo_isWritten_4 : decode m_Mo_isWritten.2.1 4 = .ok (.iload_n 1, 1) := by decide +kernel
theorem d_Mo_isWritten_5 : decode m_Mo_isWritten.2.1 5 = .ok (.iaload, 1) := by decide +kernel
theorem d_Mo_isWritten_6 : decode m_Mo_isWritten.2.1 6 = .ok (.istore_n 2, 1) := by decide +kernel
theorem d_Mo_isWritten_7 : decode m_Mo_isWritten.2.1 7 = .ok (.iload_n 2, 1) := by decide +kernel
theorem d_Mo_isWritten_8 : decode m_Mo_isWritten.2.1 8 = .ok (.ifCond .ge 5, 3) := by decide +kernel
theorem d_Mo_isWritten_11 : decode m_Mo_isWritten.2.1 11 = .ok (.iconst 1, 1) := by decide +kernel
theorem d_Mo_isWritten_12 : decode m_Mo_isWritten.2.1 12 = .ok (.ireturn, 1) := by decide +kernel
theorem d_Mo_isWritten_13 : decode m_Mo_isWritten.2.1 13 = .ok (.aload_n 0, 1) := by decide +kernel
theorem d_Mo_isWritten_14 : decode m_Mo_isWritten.2.1 14 = .ok (.getfield 7, 3) := by decide +kernel
theorem d_Mo_isWritten_17 : decode m_Mo_isWritten.2.1 17 = .ok (.iload_n 2, 1) := by decide +kernel
theorem d_Mo_isWritten_18 : decode m_Mo_isWritten.2.1 18 = .ok (.iaload, 1) := by decide +kernel
theorem d_Mo_isWritten_19 : decode m_Mo_isWritten.2.1 19 = .ok (.aload_n 0, 1) := by decide +kernel
theorem d_Mo_isWritten_20 : decode m_Mo_isWritten.2.1 20 = .ok (.getfield 55, 3) := by decide +kernel
theorem d_Mo_isWritten_23 : decode m_Mo_isWritten.2.1 23 = .ok (.iload_n 1, 1) := by decide +kernel
theorem d_Mo_isWritten_24 : decode m_Mo_isWritten.2.1 24 = .ok (.iaload, 1) := by decide +kernel
theorem d_Mo_isWritten_25 : decode m_Mo_isWritten.2.1 25 = .ok (.if_icmp .ne 7, 3) := by decide +kernel
theorem d_Mo_isWritten_28 : decode m_Mo_isWritten.2.1 28 = .ok (.iconst 1, 1) := by decide +kernel
theorem d_Mo_isWritten_29 : decode m_Mo_isWritten.2.1 29 = .ok (.goto 4, 3) := by decide +kernel
theorem d_Mo_isWritten_32 : decode m_Mo_isWritten.2.1 32 = .ok (.iconst 0, 1) := by decide +kernel
theorem d_Mo_isWritten_33 : decode m_Mo_isWritten.2.1 33 = .ok (.istore_n 3, 1) := by decide +kernel
theorem d_Mo_isWritten_34 : decode m_Mo_isWritten.2.1 34 = .ok (.iconst 0, 1) := by decide +kernel
theorem d_Mo_isWritten_35 : decode m_Mo_isWritten.2.1 35 = .ok (.istore 4, 2) := by decide +kernel
theorem d_Mo_isWritten_37 : decode m_Mo_isWritten.2.1 37 = .ok (.iload 4, 2) := by decide +kernel
theorem d_Mo_isWritten_39 : decode m_Mo_isWritten.2.1 39 = .ok (.aload_n 0, 1) := by decide +kernel
theorem d_Mo_isWritten_40 : decode m_Mo_isWritten.2.1 40 = .ok (.getfield 55, 3) := by decide +kernel
theorem d_Mo_isWritten_43 : decode m_Mo_isWritten.2.1 43 = .ok (.iload_n 1, 1) := by decide +kernel
theorem d_Mo_isWritten_44 : decode m_Mo_isWritten.2.1 44 = .ok (.iaload, 1) := by decide +kernel
theorem d_Mo_isWritten_45 : decode m_Mo_isWritten.2.1 45 = .ok (.if_icmp .ge 46, 3) := by decide +kernel
theorem d_Mo_isWritten_48 : decode m_Mo_isWritten.2.1 48 = .ok (.iload_n 3, 1) := by decide +kernel
theorem d_Mo_isWritten_49 : decode m_Mo_isWritten.2.1 49 = .ok (.ifCond .eq 42, 3) := by decide +kernel
theorem d_Mo_isWritten_52 : decode m_Mo_isWritten.2.1 52 = .ok (.aload_n 0, 1) := by decide +kernel
theorem d_Mo_isWritten_53 : decode m_Mo_isWritten.2.1 53 = .ok (.getfield 13, 3) := by decide +kernel
theorem d_Mo_isWritten_56 : decode m_Mo_isWritten.2.1 56 = .ok (.bipush 6, 2) := by decide +kernel
theorem d_Mo_isWritten_58 : decode m_Mo_isWritten.2.1 58 = .ok (.iload_n 2, 1) := by decide +kernel
theorem d_Mo_isWritten_59 : decode m_Mo_isWritten.2.1 59 = .ok (.imul, 1) := by decide +kernel
theorem d_Mo_isWritten_60 : decode m_Mo_isWritten.2.1 60 = .ok (.iload 4, 2) := by decide +kernel
theorem d_Mo_isWritten_62 : decode m_Mo_isWritten.2.1 62 = .ok (.iadd, 1) := by decide +kernel
theorem d_Mo_isWritten_63 : decode m_Mo_isWritten.2.1 63 = .ok (.iaload, 1) := by decide +kernel
theorem d_Mo_isWritten_64 : decode m_Mo_isWritten.2.1 64 = .ok (.aload_n 0, 1) := by decide +kernel
theorem d_Mo_isWritten_65 : decode m_Mo_isWritten.2.1 65 = .ok (.getfield 58, 3) := by decide +kernel
theorem d_Mo_isWritten_68 : decode m_Mo_isWritten.2.1 68 = .ok (.bipush 6, 2) := by decide +kernel
theorem d_Mo_isWritten_70 : decode m_Mo_isWritten.2.1 70 = .ok (.iload_n 1, 1) := by decide +kernel
theorem d_Mo_isWritten_71 : decode m_Mo_isWritten.2.1 71 = .ok (.imul, 1) := by decide +kernel
theorem d_Mo_isWritten_72 : decode m_Mo_isWritten.2.1 72 = .ok (.iload 4, 2) := by decide +kernel
theorem d_Mo_isWritten_74 : decode m_Mo_isWritten.2.1 74 = .ok (.iadd, 1) := by decide +kernel
theorem d_Mo_isWritten_75 : decode m_Mo_isWritten.2.1 75 = .ok (.iaload, 1) := by decide +kernel
theorem d_Mo_isWritten_76 : decode m_Mo_isWritten.2.1 76 = .ok (.if_icmp .ne 7, 3) := by decide +kernel
theorem d_Mo_isWritten_79 : decode m_Mo_isWritten.2.1 79 = .ok (.iconst 1, 1) := by decide +kernel
theorem d_Mo_isWritten_80 : decode m_Mo_isWritten.2.1 80 = .ok (.goto 4, 3) := by decide +kernel
theorem d_Mo_isWritten_83 : decode m_Mo_isWritten.2.1 83 = .ok (.iconst 0, 1) := by decide +kernel
theorem d_Mo_isWritten_84 : decode m_Mo_isWritten.2.1 84 = .ok (.istore_n 3, 1) := by decide +kernel
theorem d_Mo_isWritten_85 : decode m_Mo_isWritten.2.1 85 = .ok (.iinc 4 1, 3) := by decide +kernel
theorem d_Mo_isWritten_88 : decode m_Mo_isWritten.2.1 88 = .ok (.goto (-51), 3) := by decide +kernel
theorem d_Mo_isWritten_91 : decode m_Mo_isWritten.2.1 91 = .ok (.iload_n 3, 1) := by decide +kernel
theorem d_Mo_isWritten_92 : decode m_Mo_isWritten.2.1 92 = .ok (.ireturn, 1) := by decide +kernel
theorem d_Mo_latestOf_0 : decode m_Mo_latestOf.2.1 0 = .ok (.aload_n 0, 1) := by decide +kernel
theorem d_Mo_latestOf_1 : decode m_Mo_latestOf.2.1 1 = .ok (.getfield 176, 3) := by decide +kernel
theorem d_Mo_latestOf_4 : decode m_Mo_latestOf.2.1 4 = .ok (.iconst 1, 1) := by decide +kernel
theorem d_Mo_latestOf_5 : decode m_Mo_latestOf.2.1 5 = .ok (.isub, 1) := by decide +kernel
theorem d_Mo_latestOf_6 : decode m_Mo_latestOf.2.1 6 = .ok (.istore_n 2, 1) := by decide +kernel
theorem d_Mo_latestOf_7 : decode m_Mo_latestOf.2.1 7 = .ok (.iload_n 2, 1) := by decide +kernel
theorem d_Mo_latestOf_8 : decode m_Mo_latestOf.2.1 8 = .ok (.ifCond .lt 18, 3) := by decide +kernel
theorem d_Mo_latestOf_11 : decode m_Mo_latestOf.2.1 11 = .ok (.aload_n 0, 1) := by decide +kernel
theorem d_Mo_latestOf_12 : decode m_Mo_latestOf.2.1 12 = .ok (.iload_n 2, 1) := by decide +kernel
theorem d_Mo_latestOf_13 : decode m_Mo_latestOf.2.1 13 = .ok (.iload_n 1, 1) := by decide +kernel
theorem d_Mo_latestOf_14 : decode m_Mo_latestOf.2.1 14 = .ok (.invokevirtual 179, 3) := by decide +kernel
theorem d_Mo_latestOf_17 : decode m_Mo_latestOf.2.1 17 = .ok (.ifCond .ne 9, 3) := by decide +kernel
theorem d_Mo_latestOf_20 : decode m_Mo_latestOf.2.1 20 = .ok (.iinc 2 (-1), 3) := by decide +kernel
theorem d_Mo_latestOf_23 : decode m_Mo_latestOf.2.1 23 = .ok (.goto (-16), 3) := by decide +kernel
theorem d_Mo_latestOf_26 : decode m_Mo_latestOf.2.1 26 = .ok (.iload_n 2, 1) := by decide +kernel
theorem d_Mo_latestOf_27 : decode m_Mo_latestOf.2.1 27 = .ok (.ireturn, 1) := by decide +kernel
theorem d_Mo_work_0 : decode m_Mo_work.2.1 0 = .ok (.aload_n 0, 1) := by decide +kernel
theorem d_Mo_work_1 : decode m_Mo_work.2.1 1 = .ok (.iconst 0, 1) := by decide +kernel
theorem d_Mo_work_2 : decode m_Mo_work.2.1 2 = .ok (.putfield 135, 3) := by decide +kernel
theorem d_Mo_work_5 : decode m_Mo_work.2.1 5 = .ok (.aload_n 0, 1) := by decide +kernel
theorem d_Mo_work_6 : decode m_Mo_work.2.1 6 = .ok (.iconst 0, 1) := by decide +kernel
theorem d_Mo_work_7 : decode m_Mo_work.2.1 7 = .ok (.putfield 144, 3) := by decide +kernel
theorem d_Mo_work_10 : decode m_Mo_work.2.1 10 = .ok (.aload_n 0, 1) := by decide +kernel
theorem d_Mo_work_11 : decode m_Mo_work.2.1 11 = .ok (.iconst (-1), 1) := by decide +kernel
theorem d_Mo_work_12 : decode m_Mo_work.2.1 12 = .ok (.putfield 147, 3) := by decide +kernel
theorem d_Mo_work_15 : decode m_Mo_work.2.1 15 = .ok (.aload_n 0, 1) := by decide +kernel
theorem d_Mo_work_16 : decode m_Mo_work.2.1 16 = .ok (.iconst 0, 1) := by decide +kernel
theorem d_Mo_work_17 : decode m_Mo_work.2.1 17 = .ok (.putfield 132, 3) := by decide +kernel
theorem d_Mo_work_20 : decode m_Mo_work.2.1 20 = .ok (.iconst 0, 1) := by decide +kernel
theorem d_Mo_work_21 : decode m_Mo_work.2.1 21 = .ok (.istore_n 2, 1) := by decide +kernel
theorem d_Mo_work_22 : decode m_Mo_work.2.1 22 = .ok (.aload_n 0, 1) := by decide +kernel
theorem d_Mo_work_23 : decode m_Mo_work.2.1 23 = .ok (.getfield 28, 3) := by decide +kernel
theorem d_Mo_work_26 : decode m_Mo_work.2.1 26 = .ok (.bipush 12, 2) := by decide +kernel
theorem d_Mo_work_28 : decode m_Mo_work.2.1 28 = .ok (.iload_n 1, 1) := by decide +kernel
theorem d_Mo_work_29 : decode m_Mo_work.2.1 29 = .ok (.imul, 1) := by decide +kernel
theorem d_Mo_work_30 : decode m_Mo_work.2.1 30 = .ok (.iload_n 2, 1) := by decide +kernel
theorem d_Mo_work_31 : decode m_Mo_work.2.1 31 = .ok (.iadd, 1) := by decide +kernel
theorem d_Mo_work_32 : decode m_Mo_work.2.1 32 = .ok (.iaload, 1) := by decide +kernel
theorem d_Mo_work_33 : decode m_Mo_work.2.1 33 = .ok (.bipush 63, 2) := by decide +kernel
theorem d_Mo_work_35 : decode m_Mo_work.2.1 35 = .ok (.if_icmp .ne 46, 3) := by decide +kernel
theorem d_Mo_work_38 : decode m_Mo_work.2.1 38 = .ok (.aload_n 0, 1) := by decide +kernel
theorem d_Mo_work_39 : decode m_Mo_work.2.1 39 = .ok (.iload_n 1, 1) := by decide +kernel
theorem d_Mo_work_40 : decode m_Mo_work.2.1 40 = .ok (.iload_n 2, 1) := by decide +kernel
theorem d_Mo_work_41 : decode m_Mo_work.2.1 41 = .ok (.iconst 1, 1) := by decide +kernel
theorem d_Mo_work_42 : decode m_Mo_work.2.1 42 = .ok (.iadd, 1) := by decide +kernel
theorem d_Mo_work_43 : decode m_Mo_work.2.1 43 = .ok (.invokevirtual 150, 3) := by decide +kernel
theorem d_Mo_work_46 : decode m_Mo_work.2.1 46 = .ok (.istore_n 3, 1) := by decide +kernel
theorem d_Mo_work_47 : decode m_Mo_work.2.1 47 = .ok (.aload_n 0, 1) := by decide +kernel
theorem d_Mo_work_48 : decode m_Mo_work.2.1 48 = .ok (.iload_n 3, 1) := by decide +kernel
theorem d_Mo_work_49 : decode m_Mo_work.2.1 49 = .ok (.invokevirtual 138, 3) := by decide +kernel
theorem d_Mo_work_52 : decode m_Mo_work.2.1 52 = .ok (.aload_n 0, 1) := by decide +kernel
theorem d_Mo_work_53 : decode m_Mo_work.2.1 53 = .ok (.getfield 7, 3) := by decide +kernel
theorem d_Mo_work_56 : decode m_Mo_work.2.1 56 = .ok (.iload_n 3, 1) := by decide +kernel
theorem d_Mo_work_57 : decode m_Mo_work.2.1 57 = .ok (.iaload, 1) := by decide +kernel
theorem d_Mo_work_58 : decode m_Mo_work.2.1 58 = .ok (.iconst 1, 1) := by decide +kernel
theorem d_Mo_work_59 : decode m_Mo_work.2.1 59 = .ok (.if_icmp .lt 15, 3) := by decide +kernel
theorem d_Mo_work_62 : decode m_Mo_work.2.1 62 = .ok (.aload_n 0, 1) := by decide +kernel
theorem d_Mo_work_63 : decode m_Mo_work.2.1 63 = .ok (.getfield 13, 3) := by decide +kernel
theorem d_Mo_work_66 : decode m_Mo_work.2.1 66 = .ok (.bipush 6, 2) := by decide +kernel
theorem d_Mo_work_68 : decode m_Mo_work.2.1 68 = .ok (.iload_n 3, 1) := by decide +kernel
theorem d_Mo_work_69 : decode m_Mo_work.2.1 69 = .ok (.imul, 1) := by decide +kernel
theorem d_Mo_work_70 : decode m_Mo_work.2.1 70 = .ok (.iaload, 1) := by decide +kernel
theorem d_Mo_work_71 : decode m_Mo_work.2.1 71 = .ok (.ifCond .ne 4, 3) := by decide +kernel
theorem d_Mo_work_74 : decode m_Mo_work.2.1 74 = .ok (.return_, 1) := by decide +kernel
theorem d_Mo_work_75 : decode m_Mo_work.2.1 75 = .ok (.iinc 2 2, 3) := by decide +kernel
theorem d_Mo_work_78 : decode m_Mo_work.2.1 78 = .ok (.goto (-56), 3) := by decide +kernel
theorem d_Mo_work_81 : decode m_Mo_work.2.1 81 = .ok (.aload_n 0, 1) := by decide +kernel
theorem d_Mo_work_82 : decode m_Mo_work.2.1 82 = .ok (.iload_n 1, 1) := by decide +kernel
theorem d_Mo_work_83 : decode m_Mo_work.2.1 83 = .ok (.iload_n 2, 1) := by decide +kernel
theorem d_Mo_work_84 : decode m_Mo_work.2.1 84 = .ok (.iconst 1, 1) := by decide +kernel
theorem d_Mo_work_85 : decode m_Mo_work.2.1 85 = .ok (.iadd, 1) := by decide +kernel
theorem d_Mo_work_86 : decode m_Mo_work.2.1 86 = .ok (.invokevirtual 150, 3) := by decide +kernel
theorem d_Mo_work_89 : decode m_Mo_work.2.1 89 = .ok (.istore_n 3, 1) := by decide +kernel
theorem d_Mo_work_90 : decode m_Mo_work.2.1 90 = .ok (.aload_n 0, 1) := by decide +kernel
theorem d_Mo_work_91 : decode m_Mo_work.2.1 91 = .ok (.iload_n 1, 1) := by decide +kernel
theorem d_Mo_work_92 : decode m_Mo_work.2.1 92 = .ok (.aload_n 0, 1) := by decide +kernel
theorem d_Mo_work_93 : decode m_Mo_work.2.1 93 = .ok (.getfield 25, 3) := by decide +kernel
theorem d_Mo_work_96 : decode m_Mo_work.2.1 96 = .ok (.iload_n 1, 1) := by decide +kernel
theorem d_Mo_work_97 : decode m_Mo_work.2.1 97 = .ok (.iaload, 1) := by decide +kernel
theorem d_Mo_work_98 : decode m_Mo_work.2.1 98 = .ok (.iconst 1, 1) := by decide +kernel
theorem d_Mo_work_99 : decode m_Mo_work.2.1 99 = .ok (.isub, 1) := by decide +kernel
theorem d_Mo_work_100 : decode m_Mo_work.2.1 100 = .ok (.invokevirtual 150, 3) := by decide +kernel
theorem d_Mo_work_103 : decode m_Mo_work.2.1 103 = .ok (.istore 4, 2) := by decide +kernel
theorem d_Mo_work_105 : decode m_Mo_work.2.1 105 = .ok (.aload_n 0, 1) := by decide +kernel
theorem d_Mo_work_106 : decode m_Mo_work.2.1 106 = .ok (.iload 4, 2) := by decide +kernel
theorem d_Mo_work_108 : decode m_Mo_work.2.1 108 = .ok (.putfield 147, 3) := by decide +kernel
theorem d_Mo_work_111 : decode m_Mo_work.2.1 111 = .ok (.aload_n 0, 1) := by decide +kernel
theorem d_Mo_work_112 : decode m_Mo_work.2.1 112 = .ok (.getfield 28, 3) := by decide +kernel
theorem d_Mo_work_115 : decode m_Mo_work.2.1 115 = .ok (.bipush 12, 2) := by decide +kernel
theorem d_Mo_work_117 : decode m_Mo_work.2.1 117 = .ok (.iload_n 1, 1) := by decide +kernel
theorem d_Mo_work_118 : decode m_Mo_work.2.1 118 = .ok (.imul, 1) := by decide +kernel
theorem d_Mo_work_119 : decode m_Mo_work.2.1 119 = .ok (.iload_n 2, 1) := by decide +kernel
theorem d_Mo_work_120 : decode m_Mo_work.2.1 120 = .ok (.iadd, 1) := by decide +kernel
theorem d_Mo_work_121 : decode m_Mo_work.2.1 121 = .ok (.iaload, 1) := by decide +kernel
theorem d_Mo_work_122 : decode m_Mo_work.2.1 122 = .ok (.lookupswitch 187 #[(43, 99), (99, 74), (102, 128), (106, 83), (108, 178), (110, 159), (112, 170), (115, 115)], 74) := by decide +kernel
theorem d_Mo_work_196 : decode m_Mo_work.2.1 196 = .ok (.aload_n 0, 1) := by decide +kernel
theorem d_Mo_work_197 : decode m_Mo_work.2.1 197 = .ok (.iload_n 3, 1) := by decide +kernel
theorem d_Mo_work_198 : decode m_Mo_work.2.1 198 = .ok (.iconst 1, 1) := by decide +kernel
theorem d_Mo_work_199 : decode m_Mo_work.2.1 199 = .ok (.invokevirtual 154, 3) := by decide +kernel
theorem d_Mo_work_202 : decode m_Mo_work.2.1 202 = .ok (.goto 112, 3) := by decide +kernel
theorem d_Mo_work_205 : decode m_Mo_work.2.1 205 = .ok (.aload_n 0, 1) := by decide +kernel
theorem d_Mo_work_206 : decode m_Mo_work.2.1 206 = .ok (.iload_n 3, 1) := by decide +kernel
theorem d_Mo_work_207 : decode m_Mo_work.2.1 207 = .ok (.aload_n 0, 1) := by decide +kernel
theorem d_Mo_work_208 : decode m_Mo_work.2.1 208 = .ok (.iload_n 1, 1) := by decide +kernel
theorem d_Mo_work_209 : decode m_Mo_work.2.1 209 = .ok (.iload_n 2, 1) := by decide +kernel
theorem d_Mo_work_210 : decode m_Mo_work.2.1 210 = .ok (.iconst 2, 1) := by decide +kernel
theorem d_Mo_work_211 : decode m_Mo_work.2.1 211 = .ok (.iadd, 1) := by decide +kernel
theorem d_Mo_work_212 : decode m_Mo_work.2.1 212 = .ok (.invokevirtual 150, 3) := by decide +kernel
theorem d_Mo_work_215 : decode m_Mo_work.2.1 215 = .ok (.invokevirtual 158, 3) := by decide +kernel
theorem d_Mo_work_218 : decode m_Mo_work.2.1 218 = .ok (.goto 96, 3) := by decide +kernel
theorem d_Mo_work_221 : decode m_Mo_work.2.1 221 = .ok (.aload_n 0, 1) := by decide +kernel
theorem d_Mo_work_222 : decode m_Mo_work.2.1 222 = .ok (.iload_n 3, 1) := by decide +kernel
theorem d_Mo_work_223 : decode m_Mo_work.2.1 223 = .ok (.aload_n 0, 1) := by decide +kernel
theorem d_Mo_work_224 : decode m_Mo_work.2.1 224 = .ok (.iload_n 1, 1) := by decide +kernel
theorem d_Mo_work_225 : decode m_Mo_work.2.1 225 = .ok (.iload_n 2, 1) := by decide +kernel
theorem d_Mo_work_226 : decode m_Mo_work.2.1 226 = .ok (.iconst 2, 1) := by decide +kernel
theorem d_Mo_work_227 : decode m_Mo_work.2.1 227 = .ok (.iadd, 1) := by decide +kernel
theorem d_Mo_work_228 : decode m_Mo_work.2.1 228 = .ok (.invokevirtual 150, 3) := by decide +kernel
theorem d_Mo_work_231 : decode m_Mo_work.2.1 231 = .ok (.invokevirtual 161, 3) := by decide +kernel
theorem d_Mo_work_234 : decode m_Mo_work.2.1 234 = .ok (.goto 80, 3) := by decide +kernel
theorem d_Mo_work_237 : decode m_Mo_work.2.1 237 = .ok (.aload_n 0, 1) := by decide +kernel
theorem d_Mo_work_238 : decode m_Mo_work.2.1 238 = .ok (.iload_n 3, 1) := by decide +kernel
theorem d_Mo_work_239 : decode m_Mo_work.2.1 239 = .ok (.iconst 1, 1) := by decide +kernel
theorem d_Mo_work_240 : decode m_Mo_work.2.1 240 = .ok (.invokevirtual 154, 3) := by decide +kernel
end
section
/-! Rows that decode: laid by program. -/
theorem d_Mo_work_243 : decode m_Mo_work.2.1 243 = .ok (.aload_n 0, 1) := by decide +kernel
theorem d_Mo_work_244 : decode m_Mo_work.2.1 244 = .ok (.invokevirtual 164, 3) := by decide +kernel
theorem d_Mo_work_247 : decode m_Mo_work.2.1 247 = .ok (.goto 67, 3) := by decide +kernel
theorem d_Mo_work_250 : decode m_Mo_work.2.1 250 = .ok (.aload_n 0, 1) := by decide +kernel
theorem d_Mo_work_251 : decode m_Mo_work.2.1 251 = .ok (.aload_n 0, 1) := by decide +kernel
theorem d_Mo_work_252 : decode m_Mo_work.2.1 252 = .ok (.iload_n 1, 1) := by decide +kernel
theorem d_Mo_work_253 : decode m_Mo_work.2.1 253 = .ok (.iload_n 2, 1) := by decide +kernel
theorem d_Mo_work_254 : decode m_Mo_work.2.1 254 = .ok (.iconst 2, 1) := by decide +kernel
theorem d_Mo_work_255 : decode m_Mo_work.2.1 255 = .ok (.iadd, 1) := by decide +kernel
theorem d_Mo_work_256 : decode m_Mo_work.2.1 256 = .ok (.invokevirtual 150, 3) := by decide +kernel
theorem d_Mo_work_259 : decode m_Mo_work.2.1 259 = .ok (.aload_n 0, 1) := by decide +kernel
theorem d_Mo_work_260 : decode m_Mo_work.2.1 260 = .ok (.getfield 28, 3) := by decide +kernel
theorem d_Mo_work_263 : decode m_Mo_work.2.1 263 = .ok (.bipush 12, 2) := by decide +kernel
theorem d_Mo_work_265 : decode m_Mo_work.2.1 265 = .ok (.iload_n 1, 1) := by decide +kernel
theorem d_Mo_work_266 : decode m_Mo_work.2.1 266 = .ok (.imul, 1) := by decide +kernel
theorem d_Mo_work_267 : decode m_Mo_work.2.1 267 = .ok (.iload_n 2, 1) := by decide +kernel
theorem d_Mo_work_268 : decode m_Mo_work.2.1 268 = .ok (.iadd, 1) := by decide +kernel
theorem d_Mo_work_269 : decode m_Mo_work.2.1 269 = .ok (.iconst 1, 1) := by decide +kernel
theorem d_Mo_work_270 : decode m_Mo_work.2.1 270 = .ok (.iadd, 1) := by decide +kernel
theorem d_Mo_work_271 : decode m_Mo_work.2.1 271 = .ok (.iaload, 1) := by decide +kernel
theorem d_Mo_work_272 : decode m_Mo_work.2.1 272 = .ok (.bipush 48, 2) := by decide +kernel
theorem d_Mo_work_274 : decode m_Mo_work.2.1 274 = .ok (.isub, 1) := by decide +kernel
theorem d_Mo_work_275 : decode m_Mo_work.2.1 275 = .ok (.invokevirtual 154, 3) := by decide +kernel
theorem d_Mo_work_278 : decode m_Mo_work.2.1 278 = .ok (.goto 36, 3) := by decide +kernel
theorem d_Mo_work_281 : decode m_Mo_work.2.1 281 = .ok (.aload_n 0, 1) := by decide +kernel
theorem d_Mo_work_282 : decode m_Mo_work.2.1 282 = .ok (.iload_n 1, 1) := by decide +kernel
theorem d_Mo_work_283 : decode m_Mo_work.2.1 283 = .ok (.iload_n 2, 1) := by decide +kernel
theorem d_Mo_work_284 : decode m_Mo_work.2.1 284 = .ok (.iconst 1, 1) := by decide +kernel
theorem d_Mo_work_285 : decode m_Mo_work.2.1 285 = .ok (.iadd, 1) := by decide +kernel
theorem d_Mo_work_286 : decode m_Mo_work.2.1 286 = .ok (.invokevirtual 167, 3) := by decide +kernel
theorem d_Mo_work_289 : decode m_Mo_work.2.1 289 = .ok (.goto 25, 3) := by decide +kernel
theorem d_Mo_work_292 : decode m_Mo_work.2.1 292 = .ok (.aload_n 0, 1) := by decide +kernel
theorem d_Mo_work_293 : decode m_Mo_work.2.1 293 = .ok (.iload_n 3, 1) := by decide +kernel
theorem d_Mo_work_294 : decode m_Mo_work.2.1 294 = .ok (.invokevirtual 170, 3) := by decide +kernel
theorem d_Mo_work_297 : decode m_Mo_work.2.1 297 = .ok (.goto 17, 3) := by decide +kernel
theorem d_Mo_work_300 : decode m_Mo_work.2.1 300 = .ok (.aload_n 0, 1) := by decide +kernel
theorem d_Mo_work_301 : decode m_Mo_work.2.1 301 = .ok (.iload 4, 2) := by decide +kernel
theorem d_Mo_work_303 : decode m_Mo_work.2.1 303 = .ok (.invokevirtual 173, 3) := by decide +kernel
theorem d_Mo_work_306 : decode m_Mo_work.2.1 306 = .ok (.goto 8, 3) := by decide +kernel
theorem d_Mo_work_309 : decode m_Mo_work.2.1 309 = .ok (.aload_n 0, 1) := by decide +kernel
theorem d_Mo_work_310 : decode m_Mo_work.2.1 310 = .ok (.iconst (-1), 1) := by decide +kernel
theorem d_Mo_work_311 : decode m_Mo_work.2.1 311 = .ok (.putfield 132, 3) := by decide +kernel
theorem d_Mo_work_314 : decode m_Mo_work.2.1 314 = .ok (.return_, 1) := by decide +kernel
theorem d_Mo_letter_0 : decode m_Mo_letter.2.1 0 = .ok (.aload_n 0, 1) := by decide +kernel
theorem d_Mo_letter_1 : decode m_Mo_letter.2.1 1 = .ok (.getfield 28, 3) := by decide +kernel
theorem d_Mo_letter_4 : decode m_Mo_letter.2.1 4 = .ok (.bipush 12, 2) := by decide +kernel
theorem d_Mo_letter_6 : decode m_Mo_letter.2.1 6 = .ok (.iload_n 1, 1) := by decide +kernel
theorem d_Mo_letter_7 : decode m_Mo_letter.2.1 7 = .ok (.imul, 1) := by decide +kernel
theorem d_Mo_letter_8 : decode m_Mo_letter.2.1 8 = .ok (.iload_n 2, 1) := by decide +kernel
theorem d_Mo_letter_9 : decode m_Mo_letter.2.1 9 = .ok (.iadd, 1) := by decide +kernel
theorem d_Mo_letter_10 : decode m_Mo_letter.2.1 10 = .ok (.iaload, 1) := by decide +kernel
theorem d_Mo_letter_11 : decode m_Mo_letter.2.1 11 = .ok (.bipush 97, 2) := by decide +kernel
theorem d_Mo_letter_13 : decode m_Mo_letter.2.1 13 = .ok (.isub, 1) := by decide +kernel
theorem d_Mo_letter_14 : decode m_Mo_letter.2.1 14 = .ok (.ireturn, 1) := by decide +kernel
theorem d_Mo_readFile_0 : decode m_Mo_readFile.2.1 0 = .ok (.aload_n 0, 1) := by decide +kernel
theorem d_Mo_readFile_1 : decode m_Mo_readFile.2.1 1 = .ok (.dup, 1) := by decide +kernel
theorem d_Mo_readFile_2 : decode m_Mo_readFile.2.1 2 = .ok (.getfield 135, 3) := by decide +kernel
theorem d_Mo_readFile_5 : decode m_Mo_readFile.2.1 5 = .ok (.iconst 1, 1) := by decide +kernel
theorem d_Mo_readFile_6 : decode m_Mo_readFile.2.1 6 = .ok (.iload_n 1, 1) := by decide +kernel
theorem d_Mo_readFile_7 : decode m_Mo_readFile.2.1 7 = .ok (.ishl, 1) := by decide +kernel
theorem d_Mo_readFile_8 : decode m_Mo_readFile.2.1 8 = .ok (.ior, 1) := by decide +kernel
theorem d_Mo_readFile_9 : decode m_Mo_readFile.2.1 9 = .ok (.putfield 135, 3) := by decide +kernel
theorem d_Mo_readFile_12 : decode m_Mo_readFile.2.1 12 = .ok (.return_, 1) := by decide +kernel
theorem d_Mo_addAll_0 : decode m_Mo_addAll.2.1 0 = .ok (.aload_n 0, 1) := by decide +kernel
theorem d_Mo_addAll_1 : decode m_Mo_addAll.2.1 1 = .ok (.iload_n 1, 1) := by decide +kernel
theorem d_Mo_addAll_2 : decode m_Mo_addAll.2.1 2 = .ok (.invokevirtual 138, 3) := by decide +kernel
theorem d_Mo_addAll_5 : decode m_Mo_addAll.2.1 5 = .ok (.iconst 0, 1) := by decide +kernel
theorem d_Mo_addAll_6 : decode m_Mo_addAll.2.1 6 = .ok (.istore_n 3, 1) := by decide +kernel
theorem d_Mo_addAll_7 : decode m_Mo_addAll.2.1 7 = .ok (.iload_n 3, 1) := by decide +kernel
theorem d_Mo_addAll_8 : decode m_Mo_addAll.2.1 8 = .ok (.aload_n 0, 1) := by decide +kernel
theorem d_Mo_addAll_9 : decode m_Mo_addAll.2.1 9 = .ok (.getfield 7, 3) := by decide +kernel
theorem d_Mo_addAll_12 : decode m_Mo_addAll.2.1 12 = .ok (.iload_n 1, 1) := by decide +kernel
theorem d_Mo_addAll_13 : decode m_Mo_addAll.2.1 13 = .ok (.iaload, 1) := by decide +kernel
theorem d_Mo_addAll_14 : decode m_Mo_addAll.2.1 14 = .ok (.if_icmp .ge 40, 3) := by decide +kernel
theorem d_Mo_addAll_17 : decode m_Mo_addAll.2.1 17 = .ok (.aload_n 0, 1) := by decide +kernel
theorem d_Mo_addAll_18 : decode m_Mo_addAll.2.1 18 = .ok (.getfield 13, 3) := by decide +kernel
theorem d_Mo_addAll_21 : decode m_Mo_addAll.2.1 21 = .ok (.bipush 6, 2) := by decide +kernel
theorem d_Mo_addAll_23 : decode m_Mo_addAll.2.1 23 = .ok (.iload_n 1, 1) := by decide +kernel
theorem d_Mo_addAll_24 : decode m_Mo_addAll.2.1 24 = .ok (.imul, 1) := by decide +kernel
theorem d_Mo_addAll_25 : decode m_Mo_addAll.2.1 25 = .ok (.iload_n 3, 1) := by decide +kernel
theorem d_Mo_addAll_26 : decode m_Mo_addAll.2.1 26 = .ok (.iadd, 1) := by decide +kernel
theorem d_Mo_addAll_27 : decode m_Mo_addAll.2.1 27 = .ok (.iaload, 1) := by decide +kernel
theorem d_Mo_addAll_28 : decode m_Mo_addAll.2.1 28 = .ok (.iload_n 2, 1) := by decide +kernel
theorem d_Mo_addAll_29 : decode m_Mo_addAll.2.1 29 = .ok (.irem, 1) := by decide +kernel
theorem d_Mo_addAll_30 : decode m_Mo_addAll.2.1 30 = .ok (.ifCond .ne 18, 3) := by decide +kernel
theorem d_Mo_addAll_33 : decode m_Mo_addAll.2.1 33 = .ok (.aload_n 0, 1) := by decide +kernel
theorem d_Mo_addAll_34 : decode m_Mo_addAll.2.1 34 = .ok (.aload_n 0, 1) := by decide +kernel
theorem d_Mo_addAll_35 : decode m_Mo_addAll.2.1 35 = .ok (.getfield 13, 3) := by decide +kernel
theorem d_Mo_addAll_38 : decode m_Mo_addAll.2.1 38 = .ok (.bipush 6, 2) := by decide +kernel
theorem d_Mo_addAll_40 : decode m_Mo_addAll.2.1 40 = .ok (.iload_n 1, 1) := by decide +kernel
theorem d_Mo_addAll_41 : decode m_Mo_addAll.2.1 41 = .ok (.imul, 1) := by decide +kernel
theorem d_Mo_addAll_42 : decode m_Mo_addAll.2.1 42 = .ok (.iload_n 3, 1) := by decide +kernel
theorem d_Mo_addAll_43 : decode m_Mo_addAll.2.1 43 = .ok (.iadd, 1) := by decide +kernel
theorem d_Mo_addAll_44 : decode m_Mo_addAll.2.1 44 = .ok (.iaload, 1) := by decide +kernel
theorem d_Mo_addAll_45 : decode m_Mo_addAll.2.1 45 = .ok (.invokevirtual 141, 3) := by decide +kernel
theorem d_Mo_addAll_48 : decode m_Mo_addAll.2.1 48 = .ok (.iinc 3 1, 3) := by decide +kernel
theorem d_Mo_addAll_51 : decode m_Mo_addAll.2.1 51 = .ok (.goto (-44), 3) := by decide +kernel
theorem d_Mo_addAll_54 : decode m_Mo_addAll.2.1 54 = .ok (.return_, 1) := by decide +kernel
theorem d_Mo_add_0 : decode m_Mo_add.2.1 0 = .ok (.aload_n 0, 1) := by decide +kernel
theorem d_Mo_add_1 : decode m_Mo_add.2.1 1 = .ok (.getfield 132, 3) := by decide +kernel
theorem d_Mo_add_4 : decode m_Mo_add.2.1 4 = .ok (.bipush 6, 2) := by decide +kernel
theorem d_Mo_add_6 : decode m_Mo_add.2.1 6 = .ok (.if_icmp .lt 4, 3) := by decide +kernel
theorem d_Mo_add_9 : decode m_Mo_add.2.1 9 = .ok (.return_, 1) := by decide +kernel
theorem d_Mo_add_10 : decode m_Mo_add.2.1 10 = .ok (.aload_n 0, 1) := by decide +kernel
theorem d_Mo_add_11 : decode m_Mo_add.2.1 11 = .ok (.getfield 61, 3) := by decide +kernel
theorem d_Mo_add_14 : decode m_Mo_add.2.1 14 = .ok (.aload_n 0, 1) := by decide +kernel
theorem d_Mo_add_15 : decode m_Mo_add.2.1 15 = .ok (.getfield 132, 3) := by decide +kernel
theorem d_Mo_add_18 : decode m_Mo_add.2.1 18 = .ok (.iload_n 1, 1) := by decide +kernel
theorem d_Mo_add_19 : decode m_Mo_add.2.1 19 = .ok (.iastore, 1) := by decide +kernel
theorem d_Mo_add_20 : decode m_Mo_add.2.1 20 = .ok (.aload_n 0, 1) := by decide +kernel
theorem d_Mo_add_21 : decode m_Mo_add.2.1 21 = .ok (.dup, 1) := by decide +kernel
theorem d_Mo_add_22 : decode m_Mo_add.2.1 22 = .ok (.getfield 132, 3) := by decide +kernel
theorem d_Mo_add_25 : decode m_Mo_add.2.1 25 = .ok (.iconst 1, 1) := by decide +kernel
theorem d_Mo_add_26 : decode m_Mo_add.2.1 26 = .ok (.iadd, 1) := by decide +kernel
theorem d_Mo_add_27 : decode m_Mo_add.2.1 27 = .ok (.putfield 132, 3) := by decide +kernel
theorem d_Mo_add_30 : decode m_Mo_add.2.1 30 = .ok (.return_, 1) := by decide +kernel
theorem d_Mo_join_0 : decode m_Mo_join.2.1 0 = .ok (.aload_n 0, 1) := by decide +kernel
theorem d_Mo_join_1 : decode m_Mo_join.2.1 1 = .ok (.iload_n 1, 1) := by decide +kernel
theorem d_Mo_join_2 : decode m_Mo_join.2.1 2 = .ok (.iconst 1, 1) := by decide +kernel
theorem d_Mo_join_3 : decode m_Mo_join.2.1 3 = .ok (.invokevirtual 154, 3) := by decide +kernel
theorem d_Mo_join_6 : decode m_Mo_join.2.1 6 = .ok (.aload_n 0, 1) := by decide +kernel
theorem d_Mo_join_7 : decode m_Mo_join.2.1 7 = .ok (.iload_n 2, 1) := by decide +kernel
theorem d_Mo_join_8 : decode m_Mo_join.2.1 8 = .ok (.iconst 1, 1) := by decide +kernel
theorem d_Mo_join_9 : decode m_Mo_join.2.1 9 = .ok (.invokevirtual 154, 3) := by decide +kernel
theorem d_Mo_join_12 : decode m_Mo_join.2.1 12 = .ok (.return_, 1) := by decide +kernel
theorem d_Mo_sums_0 : decode m_Mo_sums.2.1 0 = .ok (.aload_n 0, 1) := by decide +kernel
theorem d_Mo_sums_1 : decode m_Mo_sums.2.1 1 = .ok (.iload_n 1, 1) := by decide +kernel
theorem d_Mo_sums_2 : decode m_Mo_sums.2.1 2 = .ok (.invokevirtual 138, 3) := by decide +kernel
theorem d_Mo_sums_5 : decode m_Mo_sums.2.1 5 = .ok (.aload_n 0, 1) := by decide +kernel
theorem d_Mo_sums_6 : decode m_Mo_sums.2.1 6 = .ok (.iload_n 2, 1) := by decide +kernel
theorem d_Mo_sums_7 : decode m_Mo_sums.2.1 7 = .ok (.invokevirtual 138, 3) := by decide +kernel
theorem d_Mo_sums_10 : decode m_Mo_sums.2.1 10 = .ok (.iconst 0, 1) := by decide +kernel
theorem d_Mo_sums_11 : decode m_Mo_sums.2.1 11 = .ok (.istore_n 3, 1) := by decide +kernel
theorem d_Mo_sums_12 : decode m_Mo_sums.2.1 12 = .ok (.iload_n 3, 1) := by decide +kernel
theorem d_Mo_sums_13 : decode m_Mo_sums.2.1 13 = .ok (.aload_n 0, 1) := by decide +kernel
theorem d_Mo_sums_14 : decode m_Mo_sums.2.1 14 = .ok (.getfield 7, 3) := by decide +kernel
theorem d_Mo_sums_17 : decode m_Mo_sums.2.1 17 = .ok (.iload_n 1, 1) := by decide +kernel
theorem d_Mo_sums_18 : decode m_Mo_sums.2.1 18 = .ok (.iaload, 1) := by decide +kernel
theorem d_Mo_sums_19 : decode m_Mo_sums.2.1 19 = .ok (.if_icmp .ge 47, 3) := by decide +kernel
theorem d_Mo_sums_22 : decode m_Mo_sums.2.1 22 = .ok (.iload_n 3, 1) := by decide +kernel
theorem d_Mo_sums_23 : decode m_Mo_sums.2.1 23 = .ok (.aload_n 0, 1) := by decide +kernel
theorem d_Mo_sums_24 : decode m_Mo_sums.2.1 24 = .ok (.getfield 7, 3) := by decide +kernel
theorem d_Mo_sums_27 : decode m_Mo_sums.2.1 27 = .ok (.iload_n 2, 1) := by decide +kernel
theorem d_Mo_sums_28 : decode m_Mo_sums.2.1 28 = .ok (.iaload, 1) := by decide +kernel
theorem d_Mo_sums_29 : decode m_Mo_sums.2.1 29 = .ok (.if_icmp .ge 37, 3) := by decide +kernel
theorem d_Mo_sums_32 : decode m_Mo_sums.2.1 32 = .ok (.aload_n 0, 1) := by decide +kernel
theorem d_Mo_sums_33 : decode m_Mo_sums.2.1 33 = .ok (.aload_n 0, 1) := by decide +kernel
theorem d_Mo_sums_34 : decode m_Mo_sums.2.1 34 = .ok (.getfield 13, 3) := by decide +kernel
theorem d_Mo_sums_37 : decode m_Mo_sums.2.1 37 = .ok (.bipush 6, 2) := by decide +kernel
theorem d_Mo_sums_39 : decode m_Mo_sums.2.1 39 = .ok (.iload_n 1, 1) := by decide +kernel
theorem d_Mo_sums_40 : decode m_Mo_sums.2.1 40 = .ok (.imul, 1) := by decide +kernel
theorem d_Mo_sums_41 : decode m_Mo_sums.2.1 41 = .ok (.iload_n 3, 1) := by decide +kernel
theorem d_Mo_sums_42 : decode m_Mo_sums.2.1 42 = .ok (.iadd, 1) := by decide +kernel
theorem d_Mo_sums_43 : decode m_Mo_sums.2.1 43 = .ok (.iaload, 1) := by decide +kernel
theorem d_Mo_sums_44 : decode m_Mo_sums.2.1 44 = .ok (.aload_n 0, 1) := by decide +kernel
theorem d_Mo_sums_45 : decode m_Mo_sums.2.1 45 = .ok (.getfield 13, 3) := by decide +kernel
theorem d_Mo_sums_48 : decode m_Mo_sums.2.1 48 = .ok (.bipush 6, 2) := by decide +kernel
theorem d_Mo_sums_50 : decode m_Mo_sums.2.1 50 = .ok (.iload_n 2, 1) := by decide +kernel
theorem d_Mo_sums_51 : decode m_Mo_sums.2.1 51 = .ok (.imul, 1) := by decide +kernel
theorem d_Mo_sums_52 : decode m_Mo_sums.2.1 52 = .ok (.iload_n 3, 1) := by decide +kernel
theorem d_Mo_sums_53 : decode m_Mo_sums.2.1 53 = .ok (.iadd, 1) := by decide +kernel
theorem d_Mo_sums_54 : decode m_Mo_sums.2.1 54 = .ok (.iaload, 1) := by decide +kernel
theorem d_Mo_sums_55 : decode m_Mo_sums.2.1 55 = .ok (.iadd, 1) := by decide +kernel
theorem d_Mo_sums_56 : decode m_Mo_sums.2.1 56 = .ok (.i2s, 1) := by decide +kernel
theorem d_Mo_sums_57 : decode m_Mo_sums.2.1 57 = .ok (.invokevirtual 141, 3) := by decide +kernel
theorem d_Mo_sums_60 : decode m_Mo_sums.2.1 60 = .ok (.iinc 3 1, 3) := by decide +kernel
theorem d_Mo_sums_63 : decode m_Mo_sums.2.1 63 = .ok (.goto (-51), 3) := by decide +kernel
theorem d_Mo_sums_66 : decode m_Mo_sums.2.1 66 = .ok (.return_, 1) := by decide +kernel
theorem d_Mo_sort_0 : decode m_Mo_sort.2.1 0 = .ok (.iconst 1, 1) := by decide +kernel
theorem d_Mo_sort_1 : decode m_Mo_sort.2.1 1 = .ok (.istore_n 1, 1) := by decide +kernel
theorem d_Mo_sort_2 : decode m_Mo_sort.2.1 2 = .ok (.iload_n 1, 1) := by decide +kernel
theorem d_Mo_sort_3 : decode m_Mo_sort.2.1 3 = .ok (.aload_n 0, 1) := by decide +kernel
theorem d_Mo_sort_4 : decode m_Mo_sort.2.1 4 = .ok (.getfield 132, 3) := by decide +kernel
theorem d_Mo_sort_7 : decode m_Mo_sort.2.1 7 = .ok (.if_icmp .ge 68, 3) := by decide +kernel
theorem d_Mo_sort_10 : decode m_Mo_sort.2.1 10 = .ok (.iload_n 1, 1) := by decide +kernel
theorem d_Mo_sort_11 : decode m_Mo_sort.2.1 11 = .ok (.istore_n 2, 1) := by decide +kernel
theorem d_Mo_sort_12 : decode m_Mo_sort.2.1 12 = .ok (.iload_n 2, 1) := by decide +kernel
theorem d_Mo_sort_13 : decode m_Mo_sort.2.1 13 = .ok (.ifCond .le 56, 3) := by decide +kernel
theorem d_Mo_sort_16 : decode m_Mo_sort.2.1 16 = .ok (.aload_n 0, 1) := by decide +kernel
theorem d_Mo_sort_17 : decode m_Mo_sort.2.1 17 = .ok (.getfield 61, 3) := by decide +kernel
theorem d_Mo_sort_20 : decode m_Mo_sort.2.1 20 = .ok (.iload_n 2, 1) := by decide +kernel
theorem d_Mo_sort_21 : decode m_Mo_sort.2.1 21 = .ok (.iconst 1, 1) := by decide +kernel
theorem d_Mo_sort_22 : decode m_Mo_sort.2.1 22 = .ok (.isub, 1) := by decide +kernel
theorem d_Mo_sort_23 : decode m_Mo_sort.2.1 23 = .ok (.iaload, 1) := by decide +kernel
theorem d_Mo_sort_24 : decode m_Mo_sort.2.1 24 = .ok (.aload_n 0, 1) := by decide +kernel
theorem d_Mo_sort_25 : decode m_Mo_sort.2.1 25 = .ok (.getfield 61, 3) := by decide +kernel
theorem d_Mo_sort_28 : decode m_Mo_sort.2.1 28 = .ok (.iload_n 2, 1) := by decide +kernel
theorem d_Mo_sort_29 : decode m_Mo_sort.2.1 29 = .ok (.iaload, 1) := by decide +kernel
theorem d_Mo_sort_30 : decode m_Mo_sort.2.1 30 = .ok (.if_icmp .le 39, 3) := by decide +kernel
theorem d_Mo_sort_33 : decode m_Mo_sort.2.1 33 = .ok (.aload_n 0, 1) := by decide +kernel
theorem d_Mo_sort_34 : decode m_Mo_sort.2.1 34 = .ok (.getfield 61, 3) := by decide +kernel
theorem d_Mo_sort_37 : decode m_Mo_sort.2.1 37 = .ok (.iload_n 2, 1) := by decide +kernel
theorem d_Mo_sort_38 : decode m_Mo_sort.2.1 38 = .ok (.iaload, 1) := by decide +kernel
theorem d_Mo_sort_39 : decode m_Mo_sort.2.1 39 = .ok (.istore_n 3, 1) := by decide +kernel
theorem d_Mo_sort_40 : decode m_Mo_sort.2.1 40 = .ok (.aload_n 0, 1) := by decide +kernel
theorem d_Mo_sort_41 : decode m_Mo_sort.2.1 41 = .ok (.getfield 61, 3) := by decide +kernel
theorem d_Mo_sort_44 : decode m_Mo_sort.2.1 44 = .ok (.iload_n 2, 1) := by decide +kernel
theorem d_Mo_sort_45 : decode m_Mo_sort.2.1 45 = .ok (.aload_n 0, 1) := by decide +kernel
theorem d_Mo_sort_46 : decode m_Mo_sort.2.1 46 = .ok (.getfield 61, 3) := by decide +kernel
theorem d_Mo_sort_49 : decode m_Mo_sort.2.1 49 = .ok (.iload_n 2, 1) := by decide +kernel
theorem d_Mo_sort_50 : decode m_Mo_sort.2.1 50 = .ok (.iconst 1, 1) := by decide +kernel
theorem d_Mo_sort_51 : decode m_Mo_sort.2.1 51 = .ok (.isub, 1) := by decide +kernel
theorem d_Mo_sort_52 : decode m_Mo_sort.2.1 52 = .ok (.iaload, 1) := by decide +kernel
theorem d_Mo_sort_53 : decode m_Mo_sort.2.1 53 = .ok (.iastore, 1) := by decide +kernel
theorem d_Mo_sort_54 : decode m_Mo_sort.2.1 54 = .ok (.aload_n 0, 1) := by decide +kernel
theorem d_Mo_sort_55 : decode m_Mo_sort.2.1 55 = .ok (.getfield 61, 3) := by decide +kernel
theorem d_Mo_sort_58 : decode m_Mo_sort.2.1 58 = .ok (.iload_n 2, 1) := by decide +kernel
theorem d_Mo_sort_59 : decode m_Mo_sort.2.1 59 = .ok (.iconst 1, 1) := by decide +kernel
theorem d_Mo_sort_60 : decode m_Mo_sort.2.1 60 = .ok (.isub, 1) := by decide +kernel
theorem d_Mo_sort_61 : decode m_Mo_sort.2.1 61 = .ok (.iload_n 3, 1) := by decide +kernel
theorem d_Mo_sort_62 : decode m_Mo_sort.2.1 62 = .ok (.iastore, 1) := by decide +kernel
theorem d_Mo_sort_63 : decode m_Mo_sort.2.1 63 = .ok (.iinc 2 (-1), 3) := by decide +kernel
theorem d_Mo_sort_66 : decode m_Mo_sort.2.1 66 = .ok (.goto (-54), 3) := by decide +kernel
theorem d_Mo_sort_69 : decode m_Mo_sort.2.1 69 = .ok (.iinc 1 1, 3) := by decide +kernel
theorem d_Mo_sort_72 : decode m_Mo_sort.2.1 72 = .ok (.goto (-70), 3) := by decide +kernel
theorem d_Mo_sort_75 : decode m_Mo_sort.2.1 75 = .ok (.return_, 1) := by decide +kernel
theorem d_Mo_digits_0 : decode m_Mo_digits.2.1 0 = .ok (.iload_n 2, 1) := by decide +kernel
theorem d_Mo_digits_1 : decode m_Mo_digits.2.1 1 = .ok (.istore_n 3, 1) := by decide +kernel
theorem d_Mo_digits_2 : decode m_Mo_digits.2.1 2 = .ok (.iload_n 3, 1) := by decide +kernel
theorem d_Mo_digits_3 : decode m_Mo_digits.2.1 3 = .ok (.aload_n 0, 1) := by decide +kernel
theorem d_Mo_digits_4 : decode m_Mo_digits.2.1 4 = .ok (.getfield 25, 3) := by decide +kernel
theorem d_Mo_digits_7 : decode m_Mo_digits.2.1 7 = .ok (.iload_n 1, 1) := by decide +kernel
theorem d_Mo_digits_8 : decode m_Mo_digits.2.1 8 = .ok (.iaload, 1) := by decide +kernel
theorem d_Mo_digits_9 : decode m_Mo_digits.2.1 9 = .ok (.iconst 1, 1) := by decide +kernel
theorem d_Mo_digits_10 : decode m_Mo_digits.2.1 10 = .ok (.isub, 1) := by decide +kernel
theorem d_Mo_digits_11 : decode m_Mo_digits.2.1 11 = .ok (.if_icmp .ge 27, 3) := by decide +kernel
theorem d_Mo_digits_14 : decode m_Mo_digits.2.1 14 = .ok (.aload_n 0, 1) := by decide +kernel
theorem d_Mo_digits_15 : decode m_Mo_digits.2.1 15 = .ok (.aload_n 0, 1) := by decide +kernel
theorem d_Mo_digits_16 : decode m_Mo_digits.2.1 16 = .ok (.getfield 28, 3) := by decide +kernel
theorem d_Mo_digits_19 : decode m_Mo_digits.2.1 19 = .ok (.bipush 12, 2) := by decide +kernel
theorem d_Mo_digits_21 : decode m_Mo_digits.2.1 21 = .ok (.iload_n 1, 1) := by decide +kernel
theorem d_Mo_digits_22 : decode m_Mo_digits.2.1 22 = .ok (.imul, 1) := by decide +kernel
theorem d_Mo_digits_23 : decode m_Mo_digits.2.1 23 = .ok (.iload_n 3, 1) := by decide +kernel
theorem d_Mo_digits_24 : decode m_Mo_digits.2.1 24 = .ok (.iadd, 1) := by decide +kernel
theorem d_Mo_digits_25 : decode m_Mo_digits.2.1 25 = .ok (.iaload, 1) := by decide +kernel
theorem d_Mo_digits_26 : decode m_Mo_digits.2.1 26 = .ok (.bipush 48, 2) := by decide +kernel
theorem d_Mo_digits_28 : decode m_Mo_digits.2.1 28 = .ok (.isub, 1) := by decide +kernel
theorem d_Mo_digits_29 : decode m_Mo_digits.2.1 29 = .ok (.invokevirtual 141, 3) := by decide +kernel
theorem d_Mo_digits_32 : decode m_Mo_digits.2.1 32 = .ok (.iinc 3 1, 3) := by decide +kernel
theorem d_Mo_digits_35 : decode m_Mo_digits.2.1 35 = .ok (.goto (-33), 3) := by decide +kernel
theorem d_Mo_digits_38 : decode m_Mo_digits.2.1 38 = .ok (.return_, 1) := by decide +kernel
theorem d_Mo_ask_0 : decode m_Mo_ask.2.1 0 = .ok (.aload_n 0, 1) := by decide +kernel
theorem d_Mo_ask_1 : decode m_Mo_ask.2.1 1 = .ok (.iconst 1, 1) := by decide +kernel
theorem d_Mo_ask_2 : decode m_Mo_ask.2.1 2 = .ok (.iload_n 1, 1) := by decide +kernel
theorem d_Mo_ask_3 : decode m_Mo_ask.2.1 3 = .ok (.ishl, 1) := by decide +kernel
theorem d_Mo_ask_4 : decode m_Mo_ask.2.1 4 = .ok (.putfield 144, 3) := by decide +kernel
theorem d_Mo_ask_7 : decode m_Mo_ask.2.1 7 = .ok (.aload_n 0, 1) := by decide +kernel
theorem d_Mo_ask_8 : decode m_Mo_ask.2.1 8 = .ok (.aload_n 0, 1) := by decide +kernel
theorem d_Mo_ask_9 : decode m_Mo_ask.2.1 9 = .ok (.getfield 7, 3) := by decide +kernel
theorem d_Mo_ask_12 : decode m_Mo_ask.2.1 12 = .ok (.iload_n 1, 1) := by decide +kernel
theorem d_Mo_ask_13 : decode m_Mo_ask.2.1 13 = .ok (.iaload, 1) := by decide +kernel
theorem d_Mo_ask_14 : decode m_Mo_ask.2.1 14 = .ok (.ifCond .lt 7, 3) := by decide +kernel
theorem d_Mo_ask_17 : decode m_Mo_ask.2.1 17 = .ok (.iconst 1, 1) := by decide +kernel
theorem d_Mo_ask_18 : decode m_Mo_ask.2.1 18 = .ok (.goto 4, 3) := by decide +kernel
theorem d_Mo_ask_21 : decode m_Mo_ask.2.1 21 = .ok (.iconst 0, 1) := by decide +kernel
theorem d_Mo_ask_22 : decode m_Mo_ask.2.1 22 = .ok (.invokevirtual 141, 3) := by decide +kernel
theorem d_Mo_ask_25 : decode m_Mo_ask.2.1 25 = .ok (.return_, 1) := by decide +kernel
theorem d_Mo_there_0 : decode m_Mo_there.2.1 0 = .ok (.aload_n 0, 1) := by decide +kernel
theorem d_Mo_there_1 : decode m_Mo_there.2.1 1 = .ok (.sipush 4095, 3) := by decide +kernel
theorem d_Mo_there_4 : decode m_Mo_there.2.1 4 = .ok (.putfield 144, 3) := by decide +kernel
theorem d_Mo_there_7 : decode m_Mo_there.2.1 7 = .ok (.iconst 0, 1) := by decide +kernel
theorem d_Mo_there_8 : decode m_Mo_there.2.1 8 = .ok (.istore_n 2, 1) := by decide +kernel
theorem d_Mo_there_9 : decode m_Mo_there.2.1 9 = .ok (.iload_n 2, 1) := by decide +kernel
theorem d_Mo_there_10 : decode m_Mo_there.2.1 10 = .ok (.bipush 12, 2) := by decide +kernel
theorem d_Mo_there_12 : decode m_Mo_there.2.1 12 = .ok (.if_icmp .ge 23, 3) := by decide +kernel
theorem d_Mo_there_15 : decode m_Mo_there.2.1 15 = .ok (.aload_n 0, 1) := by decide +kernel
theorem d_Mo_there_16 : decode m_Mo_there.2.1 16 = .ok (.getfield 7, 3) := by decide +kernel
theorem d_Mo_there_19 : decode m_Mo_there.2.1 19 = .ok (.iload_n 2, 1) := by decide +kernel
theorem d_Mo_there_20 : decode m_Mo_there.2.1 20 = .ok (.iaload, 1) := by decide +kernel
theorem d_Mo_there_21 : decode m_Mo_there.2.1 21 = .ok (.ifCond .lt 8, 3) := by decide +kernel
theorem d_Mo_there_24 : decode m_Mo_there.2.1 24 = .ok (.aload_n 0, 1) := by decide +kernel
theorem d_Mo_there_25 : decode m_Mo_there.2.1 25 = .ok (.iload_n 2, 1) := by decide +kernel
theorem d_Mo_there_26 : decode m_Mo_there.2.1 26 = .ok (.invokevirtual 141, 3) := by decide +kernel
theorem d_Mo_there_29 : decode m_Mo_there.2.1 29 = .ok (.iinc 2 1, 3) := by decide +kernel
theorem d_Mo_there_32 : decode m_Mo_there.2.1 32 = .ok (.goto (-23), 3) := by decide +kernel
theorem d_Mo_there_35 : decode m_Mo_there.2.1 35 = .ok (.aload_n 0, 1) := by decide +kernel
theorem d_Mo_there_36 : decode m_Mo_there.2.1 36 = .ok (.iload_n 1, 1) := by decide +kernel
theorem d_Mo_there_37 : decode m_Mo_there.2.1 37 = .ok (.putfield 147, 3) := by decide +kernel
theorem d_Mo_there_40 : decode m_Mo_there.2.1 40 = .ok (.return_, 1) := by decide +kernel
theorem d_Mo_record_0 : decode m_Mo_record.2.1 0 = .ok (.aload_n 0, 1) := by decide +kernel
theorem d_Mo_record_1 : decode m_Mo_record.2.1 1 = .ok (.getfield 176, 3) := by decide +kernel
theorem d_Mo_record_4 : decode m_Mo_record.2.1 4 = .ok (.istore_n 2, 1) := by decide +kernel
theorem d_Mo_record_5 : decode m_Mo_record.2.1 5 = .ok (.aload_n 0, 1) := by decide +kernel
theorem d_Mo_record_6 : decode m_Mo_record.2.1 6 = .ok (.getfield 31, 3) := by decide +kernel
theorem d_Mo_record_9 : decode m_Mo_record.2.1 9 = .ok (.iload_n 2, 1) := by decide +kernel
theorem d_Mo_record_10 : decode m_Mo_record.2.1 10 = .ok (.aload_n 0, 1) := by decide +kernel
theorem d_Mo_record_11 : decode m_Mo_record.2.1 11 = .ok (.getfield 25, 3) := by decide +kernel
theorem d_Mo_record_14 : decode m_Mo_record.2.1 14 = .ok (.iload_n 1, 1) := by decide +kernel
theorem d_Mo_record_15 : decode m_Mo_record.2.1 15 = .ok (.iaload, 1) := by decide +kernel
theorem d_Mo_record_16 : decode m_Mo_record.2.1 16 = .ok (.iastore, 1) := by decide +kernel
theorem d_Mo_record_17 : decode m_Mo_record.2.1 17 = .ok (.iconst 0, 1) := by decide +kernel
theorem d_Mo_record_18 : decode m_Mo_record.2.1 18 = .ok (.istore_n 3, 1) := by decide +kernel
theorem d_Mo_record_19 : decode m_Mo_record.2.1 19 = .ok (.iload_n 3, 1) := by decide +kernel
theorem d_Mo_record_20 : decode m_Mo_record.2.1 20 = .ok (.bipush 12, 2) := by decide +kernel
theorem d_Mo_record_22 : decode m_Mo_record.2.1 22 = .ok (.if_icmp .ge 31, 3) := by decide +kernel
theorem d_Mo_record_25 : decode m_Mo_record.2.1 25 = .ok (.aload_n 0, 1) := by decide +kernel
theorem d_Mo_record_26 : decode m_Mo_record.2.1 26 = .ok (.getfield 34, 3) := by decide +kernel
theorem d_Mo_record_29 : decode m_Mo_record.2.1 29 = .ok (.bipush 12, 2) := by decide +kernel
theorem d_Mo_record_31 : decode m_Mo_record.2.1 31 = .ok (.iload_n 2, 1) := by decide +kernel
theorem d_Mo_record_32 : decode m_Mo_record.2.1 32 = .ok (.imul, 1) := by decide +kernel
theorem d_Mo_record_33 : decode m_Mo_record.2.1 33 = .ok (.iload_n 3, 1) := by decide +kernel
theorem d_Mo_record_34 : decode m_Mo_record.2.1 34 = .ok (.iadd, 1) := by decide +kernel
theorem d_Mo_record_35 : decode m_Mo_record.2.1 35 = .ok (.aload_n 0, 1) := by decide +kernel
theorem d_Mo_record_36 : decode m_Mo_record.2.1 36 = .ok (.getfield 28, 3) := by decide +kernel
theorem d_Mo_record_39 : decode m_Mo_record.2.1 39 = .ok (.bipush 12, 2) := by decide +kernel
theorem d_Mo_record_41 : decode m_Mo_record.2.1 41 = .ok (.iload_n 1, 1) := by decide +kernel
theorem d_Mo_record_42 : decode m_Mo_record.2.1 42 = .ok (.imul, 1) := by decide +kernel
theorem d_Mo_record_43 : decode m_Mo_record.2.1 43 = .ok (.iload_n 3, 1) := by decide +kernel
theorem d_Mo_record_44 : decode m_Mo_record.2.1 44 = .ok (.iadd, 1) := by decide +kernel
theorem d_Mo_record_45 : decode m_Mo_record.2.1 45 = .ok (.iaload, 1) := by decide +kernel
theorem d_Mo_record_46 : decode m_Mo_record.2.1 46 = .ok (.iastore, 1) := by decide +kernel
theorem d_Mo_record_47 : decode m_Mo_record.2.1 47 = .ok (.iinc 3 1, 3) := by decide +kernel
theorem d_Mo_record_50 : decode m_Mo_record.2.1 50 = .ok (.goto (-31), 3) := by decide +kernel
theorem d_Mo_record_53 : decode m_Mo_record.2.1 53 = .ok (.aload_n 0, 1) := by decide +kernel
theorem d_Mo_record_54 : decode m_Mo_record.2.1 54 = .ok (.getfield 37, 3) := by decide +kernel
theorem d_Mo_record_57 : decode m_Mo_record.2.1 57 = .ok (.iload_n 2, 1) := by decide +kernel
theorem d_Mo_record_58 : decode m_Mo_record.2.1 58 = .ok (.aload_n 0, 1) := by decide +kernel
theorem d_Mo_record_59 : decode m_Mo_record.2.1 59 = .ok (.getfield 135, 3) := by decide +kernel
theorem d_Mo_record_62 : decode m_Mo_record.2.1 62 = .ok (.iastore, 1) := by decide +kernel
theorem d_Mo_record_63 : decode m_Mo_record.2.1 63 = .ok (.aload_n 0, 1) := by decide +kernel
theorem d_Mo_record_64 : decode m_Mo_record.2.1 64 = .ok (.getfield 40, 3) := by decide +kernel
theorem d_Mo_record_67 : decode m_Mo_record.2.1 67 = .ok (.iload_n 2, 1) := by decide +kernel
theorem d_Mo_record_68 : decode m_Mo_record.2.1 68 = .ok (.aload_n 0, 1) := by decide +kernel
theorem d_Mo_record_69 : decode m_Mo_record.2.1 69 = .ok (.getfield 144, 3) := by decide +kernel
theorem d_Mo_record_72 : decode m_Mo_record.2.1 72 = .ok (.iastore, 1) := by decide +kernel
theorem d_Mo_record_73 : decode m_Mo_record.2.1 73 = .ok (.aload_n 0, 1) := by decide +kernel
theorem d_Mo_record_74 : decode m_Mo_record.2.1 74 = .ok (.getfield 43, 3) := by decide +kernel
theorem d_Mo_record_77 : decode m_Mo_record.2.1 77 = .ok (.iload_n 2, 1) := by decide +kernel
theorem d_Mo_record_78 : decode m_Mo_record.2.1 78 = .ok (.iconst 0, 1) := by decide +kernel
theorem d_Mo_record_79 : decode m_Mo_record.2.1 79 = .ok (.iastore, 1) := by decide +kernel
theorem d_Mo_record_80 : decode m_Mo_record.2.1 80 = .ok (.iconst 0, 1) := by decide +kernel
theorem d_Mo_record_81 : decode m_Mo_record.2.1 81 = .ok (.istore_n 3, 1) := by decide +kernel
theorem d_Mo_record_82 : decode m_Mo_record.2.1 82 = .ok (.iload_n 3, 1) := by decide +kernel
theorem d_Mo_record_83 : decode m_Mo_record.2.1 83 = .ok (.bipush 12, 2) := by decide +kernel
theorem d_Mo_record_85 : decode m_Mo_record.2.1 85 = .ok (.if_icmp .ge 51, 3) := by decide +kernel
theorem d_Mo_record_88 : decode m_Mo_record.2.1 88 = .ok (.aload_n 0, 1) := by decide +kernel
theorem d_Mo_record_89 : decode m_Mo_record.2.1 89 = .ok (.getfield 43, 3) := by decide +kernel
theorem d_Mo_record_92 : decode m_Mo_record.2.1 92 = .ok (.iload_n 2, 1) := by decide +kernel
theorem d_Mo_record_93 : decode m_Mo_record.2.1 93 = .ok (.dup2, 1) := by decide +kernel
theorem d_Mo_record_94 : decode m_Mo_record.2.1 94 = .ok (.iaload, 1) := by decide +kernel
theorem d_Mo_record_95 : decode m_Mo_record.2.1 95 = .ok (.aload_n 0, 1) := by decide +kernel
theorem d_Mo_record_96 : decode m_Mo_record.2.1 96 = .ok (.getfield 7, 3) := by decide +kernel
theorem d_Mo_record_99 : decode m_Mo_record.2.1 99 = .ok (.iload_n 3, 1) := by decide +kernel
theorem d_Mo_record_100 : decode m_Mo_record.2.1 100 = .ok (.iaload, 1) := by decide +kernel
theorem d_Mo_record_101 : decode m_Mo_record.2.1 101 = .ok (.ifCond .lt 9, 3) := by decide +kernel
theorem d_Mo_record_104 : decode m_Mo_record.2.1 104 = .ok (.iconst 1, 1) := by decide +kernel
theorem d_Mo_record_105 : decode m_Mo_record.2.1 105 = .ok (.iload_n 3, 1) := by decide +kernel
theorem d_Mo_record_106 : decode m_Mo_record.2.1 106 = .ok (.ishl, 1) := by decide +kernel
theorem d_Mo_record_107 : decode m_Mo_record.2.1 107 = .ok (.goto 4, 3) := by decide +kernel
theorem d_Mo_record_110 : decode m_Mo_record.2.1 110 = .ok (.iconst 0, 1) := by decide +kernel
theorem d_Mo_record_111 : decode m_Mo_record.2.1 111 = .ok (.ior, 1) := by decide +kernel
theorem d_Mo_record_112 : decode m_Mo_record.2.1 112 = .ok (.iastore, 1) := by decide +kernel
theorem d_Mo_record_113 : decode m_Mo_record.2.1 113 = .ok (.aload_n 0, 1) := by decide +kernel
theorem d_Mo_record_114 : decode m_Mo_record.2.1 114 = .ok (.getfield 46, 3) := by decide +kernel
theorem d_Mo_record_117 : decode m_Mo_record.2.1 117 = .ok (.bipush 12, 2) := by decide +kernel
theorem d_Mo_record_119 : decode m_Mo_record.2.1 119 = .ok (.iload_n 2, 1) := by decide +kernel
theorem d_Mo_record_120 : decode m_Mo_record.2.1 120 = .ok (.imul, 1) := by decide +kernel
theorem d_Mo_record_121 : decode m_Mo_record.2.1 121 = .ok (.iload_n 3, 1) := by decide +kernel
theorem d_Mo_record_122 : decode m_Mo_record.2.1 122 = .ok (.iadd, 1) := by decide +kernel
theorem d_Mo_record_123 : decode m_Mo_record.2.1 123 = .ok (.aload_n 0, 1) := by decide +kernel
theorem d_Mo_record_124 : decode m_Mo_record.2.1 124 = .ok (.getfield 7, 3) := by decide +kernel
theorem d_Mo_record_127 : decode m_Mo_record.2.1 127 = .ok (.iload_n 3, 1) := by decide +kernel
theorem d_Mo_record_128 : decode m_Mo_record.2.1 128 = .ok (.iaload, 1) := by decide +kernel
theorem d_Mo_record_129 : decode m_Mo_record.2.1 129 = .ok (.iastore, 1) := by decide +kernel
theorem d_Mo_record_130 : decode m_Mo_record.2.1 130 = .ok (.iinc 3 1, 3) := by decide +kernel
theorem d_Mo_record_133 : decode m_Mo_record.2.1 133 = .ok (.goto (-51), 3) := by decide +kernel
theorem d_Mo_record_136 : decode m_Mo_record.2.1 136 = .ok (.iconst 0, 1) := by decide +kernel
theorem d_Mo_record_137 : decode m_Mo_record.2.1 137 = .ok (.istore_n 3, 1) := by decide +kernel
theorem d_Mo_record_138 : decode m_Mo_record.2.1 138 = .ok (.iload_n 3, 1) := by decide +kernel
theorem d_Mo_record_139 : decode m_Mo_record.2.1 139 = .ok (.bipush 72, 2) := by decide +kernel
theorem d_Mo_record_141 : decode m_Mo_record.2.1 141 = .ok (.if_icmp .ge 26, 3) := by decide +kernel
theorem d_Mo_record_144 : decode m_Mo_record.2.1 144 = .ok (.aload_n 0, 1) := by decide +kernel
theorem d_Mo_record_145 : decode m_Mo_record.2.1 145 = .ok (.getfield 49, 3) := by decide +kernel
theorem d_Mo_record_148 : decode m_Mo_record.2.1 148 = .ok (.bipush 72, 2) := by decide +kernel
theorem d_Mo_record_150 : decode m_Mo_record.2.1 150 = .ok (.iload_n 2, 1) := by decide +kernel
theorem d_Mo_record_151 : decode m_Mo_record.2.1 151 = .ok (.imul, 1) := by decide +kernel
theorem d_Mo_record_152 : decode m_Mo_record.2.1 152 = .ok (.iload_n 3, 1) := by decide +kernel
theorem d_Mo_record_153 : decode m_Mo_record.2.1 153 = .ok (.iadd, 1) := by decide +kernel
theorem d_Mo_record_154 : decode m_Mo_record.2.1 154 = .ok (.aload_n 0, 1) := by decide +kernel
theorem d_Mo_record_155 : decode m_Mo_record.2.1 155 = .ok (.getfield 13, 3) := by decide +kernel
theorem d_Mo_record_158 : decode m_Mo_record.2.1 158 = .ok (.iload_n 3, 1) := by decide +kernel
theorem d_Mo_record_159 : decode m_Mo_record.2.1 159 = .ok (.iaload, 1) := by decide +kernel
theorem d_Mo_record_160 : decode m_Mo_record.2.1 160 = .ok (.iastore, 1) := by decide +kernel
theorem d_Mo_record_161 : decode m_Mo_record.2.1 161 = .ok (.iinc 3 1, 3) := by decide +kernel
theorem d_Mo_record_164 : decode m_Mo_record.2.1 164 = .ok (.goto (-26), 3) := by decide +kernel
theorem d_Mo_record_167 : decode m_Mo_record.2.1 167 = .ok (.aload_n 0, 1) := by decide +kernel
theorem d_Mo_record_168 : decode m_Mo_record.2.1 168 = .ok (.getfield 52, 3) := by decide +kernel
theorem d_Mo_record_171 : decode m_Mo_record.2.1 171 = .ok (.iload_n 2, 1) := by decide +kernel
theorem d_Mo_record_172 : decode m_Mo_record.2.1 172 = .ok (.aload_n 0, 1) := by decide +kernel
theorem d_Mo_record_173 : decode m_Mo_record.2.1 173 = .ok (.getfield 147, 3) := by decide +kernel
theorem d_Mo_record_176 : decode m_Mo_record.2.1 176 = .ok (.iastore, 1) := by decide +kernel
theorem d_Mo_record_177 : decode m_Mo_record.2.1 177 = .ok (.aload_n 0, 1) := by decide +kernel
theorem d_Mo_record_178 : decode m_Mo_record.2.1 178 = .ok (.getfield 55, 3) := by decide +kernel
theorem d_Mo_record_181 : decode m_Mo_record.2.1 181 = .ok (.iload_n 2, 1) := by decide +kernel
theorem d_Mo_record_182 : decode m_Mo_record.2.1 182 = .ok (.aload_n 0, 1) := by decide +kernel
theorem d_Mo_record_183 : decode m_Mo_record.2.1 183 = .ok (.getfield 132, 3) := by decide +kernel
theorem d_Mo_record_186 : decode m_Mo_record.2.1 186 = .ok (.iastore, 1) := by decide +kernel
theorem d_Mo_record_187 : decode m_Mo_record.2.1 187 = .ok (.iconst 0, 1) := by decide +kernel
theorem d_Mo_record_188 : decode m_Mo_record.2.1 188 = .ok (.istore_n 3, 1) := by decide +kernel
theorem d_Mo_record_189 : decode m_Mo_record.2.1 189 = .ok (.iload_n 3, 1) := by decide +kernel
theorem d_Mo_record_190 : decode m_Mo_record.2.1 190 = .ok (.bipush 6, 2) := by decide +kernel
theorem d_Mo_record_192 : decode m_Mo_record.2.1 192 = .ok (.if_icmp .ge 26, 3) := by decide +kernel
theorem d_Mo_record_195 : decode m_Mo_record.2.1 195 = .ok (.aload_n 0, 1) := by decide +kernel
theorem d_Mo_record_196 : decode m_Mo_record.2.1 196 = .ok (.getfield 58, 3) := by decide +kernel
theorem d_Mo_record_199 : decode m_Mo_record.2.1 199 = .ok (.bipush 6, 2) := by decide +kernel
theorem d_Mo_record_201 : decode m_Mo_record.2.1 201 = .ok (.iload_n 2, 1) := by decide +kernel
theorem d_Mo_record_202 : decode m_Mo_record.2.1 202 = .ok (.imul, 1) := by decide +kernel
theorem d_Mo_record_203 : decode m_Mo_record.2.1 203 = .ok (.iload_n 3, 1) := by decide +kernel
theorem d_Mo_record_204 : decode m_Mo_record.2.1 204 = .ok (.iadd, 1) := by decide +kernel
theorem d_Mo_record_205 : decode m_Mo_record.2.1 205 = .ok (.aload_n 0, 1) := by decide +kernel
theorem d_Mo_record_206 : decode m_Mo_record.2.1 206 = .ok (.getfield 61, 3) := by decide +kernel
theorem d_Mo_record_209 : decode m_Mo_record.2.1 209 = .ok (.iload_n 3, 1) := by decide +kernel
theorem d_Mo_record_210 : decode m_Mo_record.2.1 210 = .ok (.iaload, 1) := by decide +kernel
theorem d_Mo_record_211 : decode m_Mo_record.2.1 211 = .ok (.iastore, 1) := by decide +kernel
theorem d_Mo_record_212 : decode m_Mo_record.2.1 212 = .ok (.iinc 3 1, 3) := by decide +kernel
theorem d_Mo_record_215 : decode m_Mo_record.2.1 215 = .ok (.goto (-26), 3) := by decide +kernel
theorem d_Mo_record_218 : decode m_Mo_record.2.1 218 = .ok (.aload_n 0, 1) := by decide +kernel
theorem d_Mo_record_219 : decode m_Mo_record.2.1 219 = .ok (.dup, 1) := by decide +kernel
theorem d_Mo_record_220 : decode m_Mo_record.2.1 220 = .ok (.getfield 176, 3) := by decide +kernel
theorem d_Mo_record_223 : decode m_Mo_record.2.1 223 = .ok (.iconst 1, 1) := by decide +kernel
theorem d_Mo_record_224 : decode m_Mo_record.2.1 224 = .ok (.iadd, 1) := by decide +kernel
theorem d_Mo_record_225 : decode m_Mo_record.2.1 225 = .ok (.putfield 176, 3) := by decide +kernel
theorem d_Mo_record_228 : decode m_Mo_record.2.1 228 = .ok (.aload_n 0, 1) := by decide +kernel
theorem d_Mo_record_229 : decode m_Mo_record.2.1 229 = .ok (.getfield 176, 3) := by decide +kernel
theorem d_Mo_record_232 : decode m_Mo_record.2.1 232 = .ok (.bipush 24, 2) := by decide +kernel
theorem d_Mo_record_234 : decode m_Mo_record.2.1 234 = .ok (.if_icmp .gt 4, 3) := by decide +kernel
theorem d_Mo_record_237 : decode m_Mo_record.2.1 237 = .ok (.return_, 1) := by decide +kernel
theorem d_Mo_record_238 : decode m_Mo_record.2.1 238 = .ok (.iconst 0, 1) := by decide +kernel
theorem d_Mo_record_239 : decode m_Mo_record.2.1 239 = .ok (.istore_n 3, 1) := by decide +kernel
theorem d_Mo_record_240 : decode m_Mo_record.2.1 240 = .ok (.iload_n 3, 1) := by decide +kernel
theorem d_Mo_record_241 : decode m_Mo_record.2.1 241 = .ok (.bipush 24, 2) := by decide +kernel
theorem d_Mo_record_243 : decode m_Mo_record.2.1 243 = .ok (.if_icmp .ge 17, 3) := by decide +kernel
theorem d_Mo_record_246 : decode m_Mo_record.2.1 246 = .ok (.aload_n 0, 1) := by decide +kernel
theorem d_Mo_record_247 : decode m_Mo_record.2.1 247 = .ok (.iload_n 3, 1) := by decide +kernel
theorem d_Mo_record_248 : decode m_Mo_record.2.1 248 = .ok (.iconst 1, 1) := by decide +kernel
theorem d_Mo_record_249 : decode m_Mo_record.2.1 249 = .ok (.iadd, 1) := by decide +kernel
theorem d_Mo_record_250 : decode m_Mo_record.2.1 250 = .ok (.iload_n 3, 1) := by decide +kernel
theorem d_Mo_record_251 : decode m_Mo_record.2.1 251 = .ok (.invokevirtual 188, 3) := by decide +kernel
theorem d_Mo_record_254 : decode m_Mo_record.2.1 254 = .ok (.iinc 3 1, 3) := by decide +kernel
theorem d_Mo_record_257 : decode m_Mo_record.2.1 257 = .ok (.goto (-17), 3) := by decide +kernel
theorem d_Mo_record_260 : decode m_Mo_record.2.1 260 = .ok (.aload_n 0, 1) := by decide +kernel
theorem d_Mo_record_261 : decode m_Mo_record.2.1 261 = .ok (.bipush 24, 2) := by decide +kernel
theorem d_Mo_record_263 : decode m_Mo_record.2.1 263 = .ok (.putfield 176, 3) := by decide +kernel
theorem d_Mo_record_266 : decode m_Mo_record.2.1 266 = .ok (.return_, 1) := by decide +kernel
theorem d_Mo_copyTrace_0 : decode m_Mo_copyTrace.2.1 0 = .ok (.aload_n 0, 1) := by decide +kernel
theorem d_Mo_copyTrace_1 : decode m_Mo_copyTrace.2.1 1 = .ok (.getfield 31, 3) := by decide +kernel
theorem d_Mo_copyTrace_4 : decode m_Mo_copyTrace.2.1 4 = .ok (.iload_n 2, 1) := by decide +kernel
theorem d_Mo_copyTrace_5 : decode m_Mo_copyTrace.2.1 5 = .ok (.aload_n 0, 1) := by decide +kernel
theorem d_Mo_copyTrace_6 : decode m_Mo_copyTrace.2.1 6 = .ok (.getfield 31, 3) := by decide +kernel
theorem d_Mo_copyTrace_9 : decode m_Mo_copyTrace.2.1 9 = .ok (.iload_n 1, 1) := by decide +kernel
theorem d_Mo_copyTrace_10 : decode m_Mo_copyTrace.2.1 10 = .ok (.iaload, 1) := by decide +kernel
theorem d_Mo_copyTrace_11 : decode m_Mo_copyTrace.2.1 11 = .ok (.iastore, 1) := by decide +kernel
theorem d_Mo_copyTrace_12 : decode m_Mo_copyTrace.2.1 12 = .ok (.aload_n 0, 1) := by decide +kernel
theorem d_Mo_copyTrace_13 : decode m_Mo_copyTrace.2.1 13 = .ok (.getfield 37, 3) := by decide +kernel
theorem d_Mo_copyTrace_16 : decode m_Mo_copyTrace.2.1 16 = .ok (.iload_n 2, 1) := by decide +kernel
theorem d_Mo_copyTrace_17 : decode m_Mo_copyTrace.2.1 17 = .ok (.aload_n 0, 1) := by decide +kernel
theorem d_Mo_copyTrace_18 : decode m_Mo_copyTrace.2.1 18 = .ok (.getfield 37, 3) := by decide +kernel
theorem d_Mo_copyTrace_21 : decode m_Mo_copyTrace.2.1 21 = .ok (.iload_n 1, 1) := by decide +kernel
theorem d_Mo_copyTrace_22 : decode m_Mo_copyTrace.2.1 22 = .ok (.iaload, 1) := by decide +kernel
theorem d_Mo_copyTrace_23 : decode m_Mo_copyTrace.2.1 23 = .ok (.iastore, 1) := by decide +kernel
theorem d_Mo_copyTrace_24 : decode m_Mo_copyTrace.2.1 24 = .ok (.aload_n 0, 1) := by decide +kernel
theorem d_Mo_copyTrace_25 : decode m_Mo_copyTrace.2.1 25 = .ok (.getfield 40, 3) := by decide +kernel
theorem d_Mo_copyTrace_28 : decode m_Mo_copyTrace.2.1 28 = .ok (.iload_n 2, 1) := by decide +kernel
theorem d_Mo_copyTrace_29 : decode m_Mo_copyTrace.2.1 29 = .ok (.aload_n 0, 1) := by decide +kernel
theorem d_Mo_copyTrace_30 : decode m_Mo_copyTrace.2.1 30 = .ok (.getfield 40, 3) := by decide +kernel
theorem d_Mo_copyTrace_33 : decode m_Mo_copyTrace.2.1 33 = .ok (.iload_n 1, 1) := by decide +kernel
theorem d_Mo_copyTrace_34 : decode m_Mo_copyTrace.2.1 34 = .ok (.iaload, 1) := by decide +kernel
theorem d_Mo_copyTrace_35 : decode m_Mo_copyTrace.2.1 35 = .ok (.iastore, 1) := by decide +kernel
theorem d_Mo_copyTrace_36 : decode m_Mo_copyTrace.2.1 36 = .ok (.aload_n 0, 1) := by decide +kernel
theorem d_Mo_copyTrace_37 : decode m_Mo_copyTrace.2.1 37 = .ok (.getfield 43, 3) := by decide +kernel
theorem d_Mo_copyTrace_40 : decode m_Mo_copyTrace.2.1 40 = .ok (.iload_n 2, 1) := by decide +kernel
theorem d_Mo_copyTrace_41 : decode m_Mo_copyTrace.2.1 41 = .ok (.aload_n 0, 1) := by decide +kernel
theorem d_Mo_copyTrace_42 : decode m_Mo_copyTrace.2.1 42 = .ok (.getfield 43, 3) := by decide +kernel
theorem d_Mo_copyTrace_45 : decode m_Mo_copyTrace.2.1 45 = .ok (.iload_n 1, 1) := by decide +kernel
theorem d_Mo_copyTrace_46 : decode m_Mo_copyTrace.2.1 46 = .ok (.iaload, 1) := by decide +kernel
theorem d_Mo_copyTrace_47 : decode m_Mo_copyTrace.2.1 47 = .ok (.iastore, 1) := by decide +kernel
theorem d_Mo_copyTrace_48 : decode m_Mo_copyTrace.2.1 48 = .ok (.aload_n 0, 1) := by decide +kernel
theorem d_Mo_copyTrace_49 : decode m_Mo_copyTrace.2.1 49 = .ok (.getfield 52, 3) := by decide +kernel
theorem d_Mo_copyTrace_52 : decode m_Mo_copyTrace.2.1 52 = .ok (.iload_n 2, 1) := by decide +kernel
theorem d_Mo_copyTrace_53 : decode m_Mo_copyTrace.2.1 53 = .ok (.aload_n 0, 1) := by decide +kernel
theorem d_Mo_copyTrace_54 : decode m_Mo_copyTrace.2.1 54 = .ok (.getfield 52, 3) := by decide +kernel
theorem d_Mo_copyTrace_57 : decode m_Mo_copyTrace.2.1 57 = .ok (.iload_n 1, 1) := by decide +kernel
theorem d_Mo_copyTrace_58 : decode m_Mo_copyTrace.2.1 58 = .ok (.iaload, 1) := by decide +kernel
theorem d_Mo_copyTrace_59 : decode m_Mo_copyTrace.2.1 59 = .ok (.iastore, 1) := by decide +kernel
theorem d_Mo_copyTrace_60 : decode m_Mo_copyTrace.2.1 60 = .ok (.aload_n 0, 1) := by decide +kernel
theorem d_Mo_copyTrace_61 : decode m_Mo_copyTrace.2.1 61 = .ok (.getfield 55, 3) := by decide +kernel
theorem d_Mo_copyTrace_64 : decode m_Mo_copyTrace.2.1 64 = .ok (.iload_n 2, 1) := by decide +kernel
theorem d_Mo_copyTrace_65 : decode m_Mo_copyTrace.2.1 65 = .ok (.aload_n 0, 1) := by decide +kernel
theorem d_Mo_copyTrace_66 : decode m_Mo_copyTrace.2.1 66 = .ok (.getfield 55, 3) := by decide +kernel
theorem d_Mo_copyTrace_69 : decode m_Mo_copyTrace.2.1 69 = .ok (.iload_n 1, 1) := by decide +kernel
theorem d_Mo_copyTrace_70 : decode m_Mo_copyTrace.2.1 70 = .ok (.iaload, 1) := by decide +kernel
theorem d_Mo_copyTrace_71 : decode m_Mo_copyTrace.2.1 71 = .ok (.iastore, 1) := by decide +kernel
theorem d_Mo_copyTrace_72 : decode m_Mo_copyTrace.2.1 72 = .ok (.iconst 0, 1) := by decide +kernel
theorem d_Mo_copyTrace_73 : decode m_Mo_copyTrace.2.1 73 = .ok (.istore_n 3, 1) := by decide +kernel
theorem d_Mo_copyTrace_74 : decode m_Mo_copyTrace.2.1 74 = .ok (.iload_n 3, 1) := by decide +kernel
theorem d_Mo_copyTrace_75 : decode m_Mo_copyTrace.2.1 75 = .ok (.bipush 12, 2) := by decide +kernel
theorem d_Mo_copyTrace_77 : decode m_Mo_copyTrace.2.1 77 = .ok (.if_icmp .ge 31, 3) := by decide +kernel
theorem d_Mo_copyTrace_80 : decode m_Mo_copyTrace.2.1 80 = .ok (.aload_n 0, 1) := by decide +kernel
theorem d_Mo_copyTrace_81 : decode m_Mo_copyTrace.2.1 81 = .ok (.getfield 34, 3) := by decide +kernel
theorem d_Mo_copyTrace_84 : decode m_Mo_copyTrace.2.1 84 = .ok (.bipush 12, 2) := by decide +kernel
theorem d_Mo_copyTrace_86 : decode m_Mo_copyTrace.2.1 86 = .ok (.iload_n 2, 1) := by decide +kernel
theorem d_Mo_copyTrace_87 : decode m_Mo_copyTrace.2.1 87 = .ok (.imul, 1) := by decide +kernel
theorem d_Mo_copyTrace_88 : decode m_Mo_copyTrace.2.1 88 = .ok (.iload_n 3, 1) := by decide +kernel
theorem d_Mo_copyTrace_89 : decode m_Mo_copyTrace.2.1 89 = .ok (.iadd, 1) := by decide +kernel
theorem d_Mo_copyTrace_90 : decode m_Mo_copyTrace.2.1 90 = .ok (.aload_n 0, 1) := by decide +kernel
theorem d_Mo_copyTrace_91 : decode m_Mo_copyTrace.2.1 91 = .ok (.getfield 34, 3) := by decide +kernel
theorem d_Mo_copyTrace_94 : decode m_Mo_copyTrace.2.1 94 = .ok (.bipush 12, 2) := by decide +kernel
theorem d_Mo_copyTrace_96 : decode m_Mo_copyTrace.2.1 96 = .ok (.iload_n 1, 1) := by decide +kernel
theorem d_Mo_copyTrace_97 : decode m_Mo_copyTrace.2.1 97 = .ok (.imul, 1) := by decide +kernel
theorem d_Mo_copyTrace_98 : decode m_Mo_copyTrace.2.1 98 = .ok (.iload_n 3, 1) := by decide +kernel
theorem d_Mo_copyTrace_99 : decode m_Mo_copyTrace.2.1 99 = .ok (.iadd, 1) := by decide +kernel
theorem d_Mo_copyTrace_100 : decode m_Mo_copyTrace.2.1 100 = .ok (.iaload, 1) := by decide +kernel
theorem d_Mo_copyTrace_101 : decode m_Mo_copyTrace.2.1 101 = .ok (.iastore, 1) := by decide +kernel
theorem d_Mo_copyTrace_102 : decode m_Mo_copyTrace.2.1 102 = .ok (.iinc 3 1, 3) := by decide +kernel
theorem d_Mo_copyTrace_105 : decode m_Mo_copyTrace.2.1 105 = .ok (.goto (-31), 3) := by decide +kernel
theorem d_Mo_copyTrace_108 : decode m_Mo_copyTrace.2.1 108 = .ok (.iconst 0, 1) := by decide +kernel
theorem d_Mo_copyTrace_109 : decode m_Mo_copyTrace.2.1 109 = .ok (.istore_n 3, 1) := by decide +kernel
theorem d_Mo_copyTrace_110 : decode m_Mo_copyTrace.2.1 110 = .ok (.iload_n 3, 1) := by decide +kernel
theorem d_Mo_copyTrace_111 : decode m_Mo_copyTrace.2.1 111 = .ok (.bipush 12, 2) := by decide +kernel
theorem d_Mo_copyTrace_113 : decode m_Mo_copyTrace.2.1 113 = .ok (.if_icmp .ge 31, 3) := by decide +kernel
theorem d_Mo_copyTrace_116 : decode m_Mo_copyTrace.2.1 116 = .ok (.aload_n 0, 1) := by decide +kernel
theorem d_Mo_copyTrace_117 : decode m_Mo_copyTrace.2.1 117 = .ok (.getfield 46, 3) := by decide +kernel
theorem d_Mo_copyTrace_120 : decode m_Mo_copyTrace.2.1 120 = .ok (.bipush 12, 2) := by decide +kernel
theorem d_Mo_copyTrace_122 : decode m_Mo_copyTrace.2.1 122 = .ok (.iload_n 2, 1) := by decide +kernel
theorem d_Mo_copyTrace_123 : decode m_Mo_copyTrace.2.1 123 = .ok (.imul, 1) := by decide +kernel
theorem d_Mo_copyTrace_124 : decode m_Mo_copyTrace.2.1 124 = .ok (.iload_n 3, 1) := by decide +kernel
theorem d_Mo_copyTrace_125 : decode m_Mo_copyTrace.2.1 125 = .ok (.iadd, 1) := by decide +kernel
theorem d_Mo_copyTrace_126 : decode m_Mo_copyTrace.2.1 126 = .ok (.aload_n 0, 1) := by decide +kernel
theorem d_Mo_copyTrace_127 : decode m_Mo_copyTrace.2.1 127 = .ok (.getfield 46, 3) := by decide +kernel
theorem d_Mo_copyTrace_130 : decode m_Mo_copyTrace.2.1 130 = .ok (.bipush 12, 2) := by decide +kernel
theorem d_Mo_copyTrace_132 : decode m_Mo_copyTrace.2.1 132 = .ok (.iload_n 1, 1) := by decide +kernel
theorem d_Mo_copyTrace_133 : decode m_Mo_copyTrace.2.1 133 = .ok (.imul, 1) := by decide +kernel
theorem d_Mo_copyTrace_134 : decode m_Mo_copyTrace.2.1 134 = .ok (.iload_n 3, 1) := by decide +kernel
theorem d_Mo_copyTrace_135 : decode m_Mo_copyTrace.2.1 135 = .ok (.iadd, 1) := by decide +kernel
theorem d_Mo_copyTrace_136 : decode m_Mo_copyTrace.2.1 136 = .ok (.iaload, 1) := by decide +kernel
theorem d_Mo_copyTrace_137 : decode m_Mo_copyTrace.2.1 137 = .ok (.iastore, 1) := by decide +kernel
theorem d_Mo_copyTrace_138 : decode m_Mo_copyTrace.2.1 138 = .ok (.iinc 3 1, 3) := by decide +kernel
theorem d_Mo_copyTrace_141 : decode m_Mo_copyTrace.2.1 141 = .ok (.goto (-31), 3) := by decide +kernel
theorem d_Mo_copyTrace_144 : decode m_Mo_copyTrace.2.1 144 = .ok (.iconst 0, 1) := by decide +kernel
theorem d_Mo_copyTrace_145 : decode m_Mo_copyTrace.2.1 145 = .ok (.istore_n 3, 1) := by decide +kernel
theorem d_Mo_copyTrace_146 : decode m_Mo_copyTrace.2.1 146 = .ok (.iload_n 3, 1) := by decide +kernel
theorem d_Mo_copyTrace_147 : decode m_Mo_copyTrace.2.1 147 = .ok (.bipush 72, 2) := by decide +kernel
theorem d_Mo_copyTrace_149 : decode m_Mo_copyTrace.2.1 149 = .ok (.if_icmp .ge 31, 3) := by decide +kernel
theorem d_Mo_copyTrace_152 : decode m_Mo_copyTrace.2.1 152 = .ok (.aload_n 0, 1) := by decide +kernel
theorem d_Mo_copyTrace_153 : decode m_Mo_copyTrace.2.1 153 = .ok (.getfield 49, 3) := by decide +kernel
theorem d_Mo_copyTrace_156 : decode m_Mo_copyTrace.2.1 156 = .ok (.bipush 72, 2) := by decide +kernel
theorem d_Mo_copyTrace_158 : decode m_Mo_copyTrace.2.1 158 = .ok (.iload_n 2, 1) := by decide +kernel
theorem d_Mo_copyTrace_159 : decode m_Mo_copyTrace.2.1 159 = .ok (.imul, 1) := by decide +kernel
theorem d_Mo_copyTrace_160 : decode m_Mo_copyTrace.2.1 160 = .ok (.iload_n 3, 1) := by decide +kernel
theorem d_Mo_copyTrace_161 : decode m_Mo_copyTrace.2.1 161 = .ok (.iadd, 1) := by decide +kernel
theorem d_Mo_copyTrace_162 : decode m_Mo_copyTrace.2.1 162 = .ok (.aload_n 0, 1) := by decide +kernel
theorem d_Mo_copyTrace_163 : decode m_Mo_copyTrace.2.1 163 = .ok (.getfield 49, 3) := by decide +kernel
theorem d_Mo_copyTrace_166 : decode m_Mo_copyTrace.2.1 166 = .ok (.bipush 72, 2) := by decide +kernel
theorem d_Mo_copyTrace_168 : decode m_Mo_copyTrace.2.1 168 = .ok (.iload_n 1, 1) := by decide +kernel
theorem d_Mo_copyTrace_169 : decode m_Mo_copyTrace.2.1 169 = .ok (.imul, 1) := by decide +kernel
theorem d_Mo_copyTrace_170 : decode m_Mo_copyTrace.2.1 170 = .ok (.iload_n 3, 1) := by decide +kernel
theorem d_Mo_copyTrace_171 : decode m_Mo_copyTrace.2.1 171 = .ok (.iadd, 1) := by decide +kernel
theorem d_Mo_copyTrace_172 : decode m_Mo_copyTrace.2.1 172 = .ok (.iaload, 1) := by decide +kernel
theorem d_Mo_copyTrace_173 : decode m_Mo_copyTrace.2.1 173 = .ok (.iastore, 1) := by decide +kernel
theorem d_Mo_copyTrace_174 : decode m_Mo_copyTrace.2.1 174 = .ok (.iinc 3 1, 3) := by decide +kernel
theorem d_Mo_copyTrace_177 : decode m_Mo_copyTrace.2.1 177 = .ok (.goto (-31), 3) := by decide +kernel
theorem d_Mo_copyTrace_180 : decode m_Mo_copyTrace.2.1 180 = .ok (.iconst 0, 1) := by decide +kernel
theorem d_Mo_copyTrace_181 : decode m_Mo_copyTrace.2.1 181 = .ok (.istore_n 3, 1) := by decide +kernel
theorem d_Mo_copyTrace_182 : decode m_Mo_copyTrace.2.1 182 = .ok (.iload_n 3, 1) := by decide +kernel
theorem d_Mo_copyTrace_183 : decode m_Mo_copyTrace.2.1 183 = .ok (.bipush 6, 2) := by decide +kernel
theorem d_Mo_copyTrace_185 : decode m_Mo_copyTrace.2.1 185 = .ok (.if_icmp .ge 31, 3) := by decide +kernel
theorem d_Mo_copyTrace_188 : decode m_Mo_copyTrace.2.1 188 = .ok (.aload_n 0, 1) := by decide +kernel
theorem d_Mo_copyTrace_189 : decode m_Mo_copyTrace.2.1 189 = .ok (.getfield 58, 3) := by decide +kernel
theorem d_Mo_copyTrace_192 : decode m_Mo_copyTrace.2.1 192 = .ok (.bipush 6, 2) := by decide +kernel
theorem d_Mo_copyTrace_194 : decode m_Mo_copyTrace.2.1 194 = .ok (.iload_n 2, 1) := by decide +kernel
theorem d_Mo_copyTrace_195 : decode m_Mo_copyTrace.2.1 195 = .ok (.imul, 1) := by decide +kernel
theorem d_Mo_copyTrace_196 : decode m_Mo_copyTrace.2.1 196 = .ok (.iload_n 3, 1) := by decide +kernel
theorem d_Mo_copyTrace_197 : decode m_Mo_copyTrace.2.1 197 = .ok (.iadd, 1) := by decide +kernel
theorem d_Mo_copyTrace_198 : decode m_Mo_copyTrace.2.1 198 = .ok (.aload_n 0, 1) := by decide +kernel
theorem d_Mo_copyTrace_199 : decode m_Mo_copyTrace.2.1 199 = .ok (.getfield 58, 3) := by decide +kernel
theorem d_Mo_copyTrace_202 : decode m_Mo_copyTrace.2.1 202 = .ok (.bipush 6, 2) := by decide +kernel
theorem d_Mo_copyTrace_204 : decode m_Mo_copyTrace.2.1 204 = .ok (.iload_n 1, 1) := by decide +kernel
theorem d_Mo_copyTrace_205 : decode m_Mo_copyTrace.2.1 205 = .ok (.imul, 1) := by decide +kernel
theorem d_Mo_copyTrace_206 : decode m_Mo_copyTrace.2.1 206 = .ok (.iload_n 3, 1) := by decide +kernel
theorem d_Mo_copyTrace_207 : decode m_Mo_copyTrace.2.1 207 = .ok (.iadd, 1) := by decide +kernel
theorem d_Mo_copyTrace_208 : decode m_Mo_copyTrace.2.1 208 = .ok (.iaload, 1) := by decide +kernel
theorem d_Mo_copyTrace_209 : decode m_Mo_copyTrace.2.1 209 = .ok (.iastore, 1) := by decide +kernel
theorem d_Mo_copyTrace_210 : decode m_Mo_copyTrace.2.1 210 = .ok (.iinc 3 1, 3) := by decide +kernel
theorem d_Mo_copyTrace_213 : decode m_Mo_copyTrace.2.1 213 = .ok (.goto (-31), 3) := by decide +kernel
theorem d_Mo_copyTrace_216 : decode m_Mo_copyTrace.2.1 216 = .ok (.return_, 1) := by decide +kernel
theorem d_Mo_write_0 : decode m_Mo_write.2.1 0 = .ok (.aload_n 0, 1) := by decide +kernel
theorem d_Mo_write_1 : decode m_Mo_write.2.1 1 = .ok (.getfield 52, 3) := by decide +kernel
theorem d_Mo_write_4 : decode m_Mo_write.2.1 4 = .ok (.iload_n 1, 1) := by decide +kernel
theorem d_Mo_write_5 : decode m_Mo_write.2.1 5 = .ok (.iaload, 1) := by decide +kernel
theorem d_Mo_write_6 : decode m_Mo_write.2.1 6 = .ok (.istore_n 2, 1) := by decide +kernel
theorem d_Mo_write_7 : decode m_Mo_write.2.1 7 = .ok (.iload_n 2, 1) := by decide +kernel
theorem d_Mo_write_8 : decode m_Mo_write.2.1 8 = .ok (.ifCond .ge 4, 3) := by decide +kernel
theorem d_Mo_write_11 : decode m_Mo_write.2.1 11 = .ok (.return_, 1) := by decide +kernel
theorem d_Mo_write_12 : decode m_Mo_write.2.1 12 = .ok (.aload_n 0, 1) := by decide +kernel
theorem d_Mo_write_13 : decode m_Mo_write.2.1 13 = .ok (.getfield 7, 3) := by decide +kernel
theorem d_Mo_write_16 : decode m_Mo_write.2.1 16 = .ok (.iload_n 2, 1) := by decide +kernel
theorem d_Mo_write_17 : decode m_Mo_write.2.1 17 = .ok (.aload_n 0, 1) := by decide +kernel
theorem d_Mo_write_18 : decode m_Mo_write.2.1 18 = .ok (.getfield 55, 3) := by decide +kernel
theorem d_Mo_write_21 : decode m_Mo_write.2.1 21 = .ok (.iload_n 1, 1) := by decide +kernel
theorem d_Mo_write_22 : decode m_Mo_write.2.1 22 = .ok (.iaload, 1) := by decide +kernel
theorem d_Mo_write_23 : decode m_Mo_write.2.1 23 = .ok (.iastore, 1) := by decide +kernel
theorem d_Mo_write_24 : decode m_Mo_write.2.1 24 = .ok (.iconst 0, 1) := by decide +kernel
theorem d_Mo_write_25 : decode m_Mo_write.2.1 25 = .ok (.istore_n 3, 1) := by decide +kernel
theorem d_Mo_write_26 : decode m_Mo_write.2.1 26 = .ok (.iload_n 3, 1) := by decide +kernel
theorem d_Mo_write_27 : decode m_Mo_write.2.1 27 = .ok (.aload_n 0, 1) := by decide +kernel
theorem d_Mo_write_28 : decode m_Mo_write.2.1 28 = .ok (.getfield 55, 3) := by decide +kernel
theorem d_Mo_write_31 : decode m_Mo_write.2.1 31 = .ok (.iload_n 1, 1) := by decide +kernel
theorem d_Mo_write_32 : decode m_Mo_write.2.1 32 = .ok (.iaload, 1) := by decide +kernel
theorem d_Mo_write_33 : decode m_Mo_write.2.1 33 = .ok (.if_icmp .ge 31, 3) := by decide +kernel
theorem d_Mo_write_36 : decode m_Mo_write.2.1 36 = .ok (.aload_n 0, 1) := by decide +kernel
theorem d_Mo_write_37 : decode m_Mo_write.2.1 37 = .ok (.getfield 13, 3) := by decide +kernel
theorem d_Mo_write_40 : decode m_Mo_write.2.1 40 = .ok (.bipush 6, 2) := by decide +kernel
theorem d_Mo_write_42 : decode m_Mo_write.2.1 42 = .ok (.iload_n 2, 1) := by decide +kernel
theorem d_Mo_write_43 : decode m_Mo_write.2.1 43 = .ok (.imul, 1) := by decide +kernel
theorem d_Mo_write_44 : decode m_Mo_write.2.1 44 = .ok (.iload_n 3, 1) := by decide +kernel
theorem d_Mo_write_45 : decode m_Mo_write.2.1 45 = .ok (.iadd, 1) := by decide +kernel
theorem d_Mo_write_46 : decode m_Mo_write.2.1 46 = .ok (.aload_n 0, 1) := by decide +kernel
theorem d_Mo_write_47 : decode m_Mo_write.2.1 47 = .ok (.getfield 58, 3) := by decide +kernel
theorem d_Mo_write_50 : decode m_Mo_write.2.1 50 = .ok (.bipush 6, 2) := by decide +kernel
theorem d_Mo_write_52 : decode m_Mo_write.2.1 52 = .ok (.iload_n 1, 1) := by decide +kernel
theorem d_Mo_write_53 : decode m_Mo_write.2.1 53 = .ok (.imul, 1) := by decide +kernel
theorem d_Mo_write_54 : decode m_Mo_write.2.1 54 = .ok (.iload_n 3, 1) := by decide +kernel
theorem d_Mo_write_55 : decode m_Mo_write.2.1 55 = .ok (.iadd, 1) := by decide +kernel
theorem d_Mo_write_56 : decode m_Mo_write.2.1 56 = .ok (.iaload, 1) := by decide +kernel
theorem d_Mo_write_57 : decode m_Mo_write.2.1 57 = .ok (.iastore, 1) := by decide +kernel
theorem d_Mo_write_58 : decode m_Mo_write.2.1 58 = .ok (.iinc 3 1, 3) := by decide +kernel
theorem d_Mo_write_61 : decode m_Mo_write.2.1 61 = .ok (.goto (-35), 3) := by decide +kernel
theorem d_Mo_write_64 : decode m_Mo_write.2.1 64 = .ok (.return_, 1) := by decide +kernel
theorem d_Mo_isHazard_0 : decode m_Mo_isHazard.2.1 0 = .ok (.aload_n 0, 1) := by decide +kernel
theorem d_Mo_isHazard_1 : decode m_Mo_isHazard.2.1 1 = .ok (.iload_n 1, 1) := by decide +kernel
theorem d_Mo_isHazard_2 : decode m_Mo_isHazard.2.1 2 = .ok (.iconst 1, 1) := by decide +kernel
theorem d_Mo_isHazard_3 : decode m_Mo_isHazard.2.1 3 = .ok (.invokevirtual 212, 3) := by decide +kernel
theorem d_Mo_isHazard_6 : decode m_Mo_isHazard.2.1 6 = .ok (.ifCond .ne 12, 3) := by decide +kernel
theorem d_Mo_isHazard_9 : decode m_Mo_isHazard.2.1 9 = .ok (.aload_n 0, 1) := by decide +kernel
theorem d_Mo_isHazard_10 : decode m_Mo_isHazard.2.1 10 = .ok (.iload_n 1, 1) := by decide +kernel
theorem d_Mo_isHazard_11 : decode m_Mo_isHazard.2.1 11 = .ok (.iconst 0, 1) := by decide +kernel
theorem d_Mo_isHazard_12 : decode m_Mo_isHazard.2.1 12 = .ok (.invokevirtual 212, 3) := by decide +kernel
theorem d_Mo_isHazard_15 : decode m_Mo_isHazard.2.1 15 = .ok (.ifCond .eq 7, 3) := by decide +kernel
theorem d_Mo_isHazard_18 : decode m_Mo_isHazard.2.1 18 = .ok (.iconst 1, 1) := by decide +kernel
theorem d_Mo_isHazard_19 : decode m_Mo_isHazard.2.1 19 = .ok (.goto 4, 3) := by decide +kernel
theorem d_Mo_isHazard_22 : decode m_Mo_isHazard.2.1 22 = .ok (.iconst 0, 1) := by decide +kernel
theorem d_Mo_isHazard_23 : decode m_Mo_isHazard.2.1 23 = .ok (.ireturn, 1) := by decide +kernel
theorem d_Mo_isHazardOf_0 : decode m_Mo_isHazardOf.2.1 0 = .ok (.iconst 0, 1) := by decide +kernel
theorem d_Mo_isHazardOf_1 : decode m_Mo_isHazardOf.2.1 1 = .ok (.istore_n 3, 1) := by decide +kernel
theorem d_Mo_isHazardOf_2 : decode m_Mo_isHazardOf.2.1 2 = .ok (.iload_n 3, 1) := by decide +kernel
theorem d_Mo_isHazardOf_3 : decode m_Mo_isHazardOf.2.1 3 = .ok (.aload_n 0, 1) := by decide +kernel
theorem d_Mo_isHazardOf_4 : decode m_Mo_isHazardOf.2.1 4 = .ok (.getfield 125, 3) := by decide +kernel
theorem d_Mo_isHazardOf_7 : decode m_Mo_isHazardOf.2.1 7 = .ok (.if_icmp .ge 112, 3) := by decide +kernel
theorem d_Mo_isHazardOf_10 : decode m_Mo_isHazardOf.2.1 10 = .ok (.iload_n 3, 1) := by decide +kernel
theorem d_Mo_isHazardOf_11 : decode m_Mo_isHazardOf.2.1 11 = .ok (.iload_n 1, 1) := by decide +kernel
theorem d_Mo_isHazardOf_12 : decode m_Mo_isHazardOf.2.1 12 = .ok (.if_icmp .eq 101, 3) := by decide +kernel
theorem d_Mo_isHazardOf_15 : decode m_Mo_isHazardOf.2.1 15 = .ok (.aload_n 0, 1) := by decide +kernel
theorem d_Mo_isHazardOf_16 : decode m_Mo_isHazardOf.2.1 16 = .ok (.getfield 64, 3) := by decide +kernel
theorem d_Mo_isHazardOf_19 : decode m_Mo_isHazardOf.2.1 19 = .ok (.iload_n 3, 1) := by decide +kernel
theorem d_Mo_isHazardOf_20 : decode m_Mo_isHazardOf.2.1 20 = .ok (.baload, 1) := by decide +kernel
theorem d_Mo_isHazardOf_21 : decode m_Mo_isHazardOf.2.1 21 = .ok (.ifCond .eq 92, 3) := by decide +kernel
theorem d_Mo_isHazardOf_24 : decode m_Mo_isHazardOf.2.1 24 = .ok (.aload_n 0, 1) := by decide +kernel
theorem d_Mo_isHazardOf_25 : decode m_Mo_isHazardOf.2.1 25 = .ok (.getfield 68, 3) := by decide +kernel
theorem d_Mo_isHazardOf_28 : decode m_Mo_isHazardOf.2.1 28 = .ok (.iload_n 3, 1) := by decide +kernel
theorem d_Mo_isHazardOf_29 : decode m_Mo_isHazardOf.2.1 29 = .ok (.baload, 1) := by decide +kernel
theorem d_Mo_isHazardOf_30 : decode m_Mo_isHazardOf.2.1 30 = .ok (.ifCond .ne 12, 3) := by decide +kernel
theorem d_Mo_isHazardOf_33 : decode m_Mo_isHazardOf.2.1 33 = .ok (.aload_n 0, 1) := by decide +kernel
theorem d_Mo_isHazardOf_34 : decode m_Mo_isHazardOf.2.1 34 = .ok (.getfield 68, 3) := by decide +kernel
theorem d_Mo_isHazardOf_37 : decode m_Mo_isHazardOf.2.1 37 = .ok (.iload_n 1, 1) := by decide +kernel
theorem d_Mo_isHazardOf_38 : decode m_Mo_isHazardOf.2.1 38 = .ok (.baload, 1) := by decide +kernel
theorem d_Mo_isHazardOf_39 : decode m_Mo_isHazardOf.2.1 39 = .ok (.ifCond .eq 7, 3) := by decide +kernel
theorem d_Mo_isHazardOf_42 : decode m_Mo_isHazardOf.2.1 42 = .ok (.iconst 1, 1) := by decide +kernel
theorem d_Mo_isHazardOf_43 : decode m_Mo_isHazardOf.2.1 43 = .ok (.goto 4, 3) := by decide +kernel
theorem d_Mo_isHazardOf_46 : decode m_Mo_isHazardOf.2.1 46 = .ok (.iconst 0, 1) := by decide +kernel
theorem d_Mo_isHazardOf_47 : decode m_Mo_isHazardOf.2.1 47 = .ok (.iload_n 2, 1) := by decide +kernel
theorem d_Mo_isHazardOf_48 : decode m_Mo_isHazardOf.2.1 48 = .ok (.if_icmp .eq 6, 3) := by decide +kernel
theorem d_Mo_isHazardOf_51 : decode m_Mo_isHazardOf.2.1 51 = .ok (.goto 62, 3) := by decide +kernel
theorem d_Mo_isHazardOf_54 : decode m_Mo_isHazardOf.2.1 54 = .ok (.aload_n 0, 1) := by decide +kernel
theorem d_Mo_isHazardOf_55 : decode m_Mo_isHazardOf.2.1 55 = .ok (.iload_n 3, 1) := by decide +kernel
theorem d_Mo_isHazardOf_56 : decode m_Mo_isHazardOf.2.1 56 = .ok (.iload_n 1, 1) := by decide +kernel
theorem d_Mo_isHazardOf_57 : decode m_Mo_isHazardOf.2.1 57 = .ok (.invokevirtual 216, 3) := by decide +kernel
theorem d_Mo_isHazardOf_60 : decode m_Mo_isHazardOf.2.1 60 = .ok (.istore 4, 2) := by decide +kernel
theorem d_Mo_isHazardOf_62 : decode m_Mo_isHazardOf.2.1 62 = .ok (.iload 4, 2) := by decide +kernel
theorem d_Mo_isHazardOf_64 : decode m_Mo_isHazardOf.2.1 64 = .ok (.ifCond .ne 6, 3) := by decide +kernel
theorem d_Mo_isHazardOf_67 : decode m_Mo_isHazardOf.2.1 67 = .ok (.goto 46, 3) := by decide +kernel
theorem d_Mo_isHazardOf_70 : decode m_Mo_isHazardOf.2.1 70 = .ok (.aload_n 0, 1) := by decide +kernel
theorem d_Mo_isHazardOf_71 : decode m_Mo_isHazardOf.2.1 71 = .ok (.iload 4, 2) := by decide +kernel
theorem d_Mo_isHazardOf_73 : decode m_Mo_isHazardOf.2.1 73 = .ok (.putfield 219, 3) := by decide +kernel
theorem d_Mo_isHazardOf_76 : decode m_Mo_isHazardOf.2.1 76 = .ok (.aload_n 0, 1) := by decide +kernel
theorem d_Mo_isHazardOf_77 : decode m_Mo_isHazardOf.2.1 77 = .ok (.iload_n 3, 1) := by decide +kernel
theorem d_Mo_isHazardOf_78 : decode m_Mo_isHazardOf.2.1 78 = .ok (.putfield 222, 3) := by decide +kernel
theorem d_Mo_isHazardOf_81 : decode m_Mo_isHazardOf.2.1 81 = .ok (.aload_n 0, 1) := by decide +kernel
theorem d_Mo_isHazardOf_82 : decode m_Mo_isHazardOf.2.1 82 = .ok (.iload_n 1, 1) := by decide +kernel
theorem d_Mo_isHazardOf_83 : decode m_Mo_isHazardOf.2.1 83 = .ok (.putfield 225, 3) := by decide +kernel
theorem d_Mo_isHazardOf_86 : decode m_Mo_isHazardOf.2.1 86 = .ok (.aload_n 0, 1) := by decide +kernel
theorem d_Mo_isHazardOf_87 : decode m_Mo_isHazardOf.2.1 87 = .ok (.iload 4, 2) := by decide +kernel
theorem d_Mo_isHazardOf_89 : decode m_Mo_isHazardOf.2.1 89 = .ok (.iconst 3, 1) := by decide +kernel
theorem d_Mo_isHazardOf_90 : decode m_Mo_isHazardOf.2.1 90 = .ok (.if_icmp .ne 12, 3) := by decide +kernel
theorem d_Mo_isHazardOf_93 : decode m_Mo_isHazardOf.2.1 93 = .ok (.aload_n 0, 1) := by decide +kernel
theorem d_Mo_isHazardOf_94 : decode m_Mo_isHazardOf.2.1 94 = .ok (.getfield 83, 3) := by decide +kernel
theorem d_Mo_isHazardOf_97 : decode m_Mo_isHazardOf.2.1 97 = .ok (.iload_n 3, 1) := by decide +kernel
theorem d_Mo_isHazardOf_98 : decode m_Mo_isHazardOf.2.1 98 = .ok (.iaload, 1) := by decide +kernel
theorem d_Mo_isHazardOf_99 : decode m_Mo_isHazardOf.2.1 99 = .ok (.goto 9, 3) := by decide +kernel
theorem d_Mo_isHazardOf_102 : decode m_Mo_isHazardOf.2.1 102 = .ok (.aload_n 0, 1) := by decide +kernel
theorem d_Mo_isHazardOf_103 : decode m_Mo_isHazardOf.2.1 103 = .ok (.getfield 83, 3) := by decide +kernel
theorem d_Mo_isHazardOf_106 : decode m_Mo_isHazardOf.2.1 106 = .ok (.iload_n 1, 1) := by decide +kernel
theorem d_Mo_isHazardOf_107 : decode m_Mo_isHazardOf.2.1 107 = .ok (.iaload, 1) := by decide +kernel
theorem d_Mo_isHazardOf_108 : decode m_Mo_isHazardOf.2.1 108 = .ok (.putfield 228, 3) := by decide +kernel
theorem d_Mo_isHazardOf_111 : decode m_Mo_isHazardOf.2.1 111 = .ok (.iconst 1, 1) := by decide +kernel
theorem d_Mo_isHazardOf_112 : decode m_Mo_isHazardOf.2.1 112 = .ok (.ireturn, 1) := by decide +kernel
theorem d_Mo_isHazardOf_113 : decode m_Mo_isHazardOf.2.1 113 = .ok (.iinc 3 1, 3) := by decide +kernel
theorem d_Mo_isHazardOf_116 : decode m_Mo_isHazardOf.2.1 116 = .ok (.goto (-114), 3) := by decide +kernel
theorem d_Mo_isHazardOf_119 : decode m_Mo_isHazardOf.2.1 119 = .ok (.iconst 0, 1) := by decide +kernel
theorem d_Mo_isHazardOf_120 : decode m_Mo_isHazardOf.2.1 120 = .ok (.ireturn, 1) := by decide +kernel
theorem d_Mo_kindOf_0 : decode m_Mo_kindOf.2.1 0 = .ok (.aload_n 0, 1) := by decide +kernel
theorem d_Mo_kindOf_1 : decode m_Mo_kindOf.2.1 1 = .ok (.getfield 83, 3) := by decide +kernel
theorem d_Mo_kindOf_4 : decode m_Mo_kindOf.2.1 4 = .ok (.iload_n 1, 1) := by decide +kernel
theorem d_Mo_kindOf_5 : decode m_Mo_kindOf.2.1 5 = .ok (.iaload, 1) := by decide +kernel
theorem d_Mo_kindOf_6 : decode m_Mo_kindOf.2.1 6 = .ok (.ifCond .lt 20, 3) := by decide +kernel
theorem d_Mo_kindOf_9 : decode m_Mo_kindOf.2.1 9 = .ok (.aload_n 0, 1) := by decide +kernel
theorem d_Mo_kindOf_10 : decode m_Mo_kindOf.2.1 10 = .ok (.getfield 83, 3) := by decide +kernel
theorem d_Mo_kindOf_13 : decode m_Mo_kindOf.2.1 13 = .ok (.iload_n 1, 1) := by decide +kernel
theorem d_Mo_kindOf_14 : decode m_Mo_kindOf.2.1 14 = .ok (.iaload, 1) := by decide +kernel
theorem d_Mo_kindOf_15 : decode m_Mo_kindOf.2.1 15 = .ok (.aload_n 0, 1) := by decide +kernel
theorem d_Mo_kindOf_16 : decode m_Mo_kindOf.2.1 16 = .ok (.getfield 83, 3) := by decide +kernel
theorem d_Mo_kindOf_19 : decode m_Mo_kindOf.2.1 19 = .ok (.iload_n 2, 1) := by decide +kernel
theorem d_Mo_kindOf_20 : decode m_Mo_kindOf.2.1 20 = .ok (.iaload, 1) := by decide +kernel
theorem d_Mo_kindOf_21 : decode m_Mo_kindOf.2.1 21 = .ok (.if_icmp .ne 5, 3) := by decide +kernel
theorem d_Mo_kindOf_24 : decode m_Mo_kindOf.2.1 24 = .ok (.iconst 1, 1) := by decide +kernel
theorem d_Mo_kindOf_25 : decode m_Mo_kindOf.2.1 25 = .ok (.ireturn, 1) := by decide +kernel
theorem d_Mo_kindOf_26 : decode m_Mo_kindOf.2.1 26 = .ok (.aload_n 0, 1) := by decide +kernel
theorem d_Mo_kindOf_27 : decode m_Mo_kindOf.2.1 27 = .ok (.aload_n 0, 1) := by decide +kernel
theorem d_Mo_kindOf_28 : decode m_Mo_kindOf.2.1 28 = .ok (.getfield 77, 3) := by decide +kernel
theorem d_Mo_kindOf_31 : decode m_Mo_kindOf.2.1 31 = .ok (.iload_n 1, 1) := by decide +kernel
theorem d_Mo_kindOf_32 : decode m_Mo_kindOf.2.1 32 = .ok (.iaload, 1) := by decide +kernel
theorem d_Mo_kindOf_33 : decode m_Mo_kindOf.2.1 33 = .ok (.aload_n 0, 1) := by decide +kernel
theorem d_Mo_kindOf_34 : decode m_Mo_kindOf.2.1 34 = .ok (.getfield 83, 3) := by decide +kernel
theorem d_Mo_kindOf_37 : decode m_Mo_kindOf.2.1 37 = .ok (.iload_n 2, 1) := by decide +kernel
theorem d_Mo_kindOf_38 : decode m_Mo_kindOf.2.1 38 = .ok (.iaload, 1) := by decide +kernel
theorem d_Mo_kindOf_39 : decode m_Mo_kindOf.2.1 39 = .ok (.invokevirtual 209, 3) := by decide +kernel
theorem d_Mo_kindOf_42 : decode m_Mo_kindOf.2.1 42 = .ok (.ifCond .ne 31, 3) := by decide +kernel
theorem d_Mo_kindOf_45 : decode m_Mo_kindOf.2.1 45 = .ok (.aload_n 0, 1) := by decide +kernel
theorem d_Mo_kindOf_46 : decode m_Mo_kindOf.2.1 46 = .ok (.aload_n 0, 1) := by decide +kernel
theorem d_Mo_kindOf_47 : decode m_Mo_kindOf.2.1 47 = .ok (.getfield 80, 3) := by decide +kernel
theorem d_Mo_kindOf_50 : decode m_Mo_kindOf.2.1 50 = .ok (.iload_n 1, 1) := by decide +kernel
theorem d_Mo_kindOf_51 : decode m_Mo_kindOf.2.1 51 = .ok (.iaload, 1) := by decide +kernel
theorem d_Mo_kindOf_52 : decode m_Mo_kindOf.2.1 52 = .ok (.aload_n 0, 1) := by decide +kernel
theorem d_Mo_kindOf_53 : decode m_Mo_kindOf.2.1 53 = .ok (.getfield 83, 3) := by decide +kernel
theorem d_Mo_kindOf_56 : decode m_Mo_kindOf.2.1 56 = .ok (.iload_n 2, 1) := by decide +kernel
theorem d_Mo_kindOf_57 : decode m_Mo_kindOf.2.1 57 = .ok (.iaload, 1) := by decide +kernel
theorem d_Mo_kindOf_58 : decode m_Mo_kindOf.2.1 58 = .ok (.invokevirtual 209, 3) := by decide +kernel
theorem d_Mo_kindOf_61 : decode m_Mo_kindOf.2.1 61 = .ok (.ifCond .eq 14, 3) := by decide +kernel
theorem d_Mo_kindOf_64 : decode m_Mo_kindOf.2.1 64 = .ok (.aload_n 0, 1) := by decide +kernel
theorem d_Mo_kindOf_65 : decode m_Mo_kindOf.2.1 65 = .ok (.getfield 86, 3) := by decide +kernel
theorem d_Mo_kindOf_68 : decode m_Mo_kindOf.2.1 68 = .ok (.iload_n 2, 1) := by decide +kernel
theorem d_Mo_kindOf_69 : decode m_Mo_kindOf.2.1 69 = .ok (.baload, 1) := by decide +kernel
theorem d_Mo_kindOf_70 : decode m_Mo_kindOf.2.1 70 = .ok (.ifCond .eq 5, 3) := by decide +kernel
theorem d_Mo_kindOf_73 : decode m_Mo_kindOf.2.1 73 = .ok (.iconst 2, 1) := by decide +kernel
theorem d_Mo_kindOf_74 : decode m_Mo_kindOf.2.1 74 = .ok (.ireturn, 1) := by decide +kernel
theorem d_Mo_kindOf_75 : decode m_Mo_kindOf.2.1 75 = .ok (.iload_n 1, 1) := by decide +kernel
theorem d_Mo_kindOf_76 : decode m_Mo_kindOf.2.1 76 = .ok (.iload_n 2, 1) := by decide +kernel
theorem d_Mo_kindOf_77 : decode m_Mo_kindOf.2.1 77 = .ok (.if_icmp .le 54, 3) := by decide +kernel
theorem d_Mo_kindOf_80 : decode m_Mo_kindOf.2.1 80 = .ok (.aload_n 0, 1) := by decide +kernel
theorem d_Mo_kindOf_81 : decode m_Mo_kindOf.2.1 81 = .ok (.aload_n 0, 1) := by decide +kernel
theorem d_Mo_kindOf_82 : decode m_Mo_kindOf.2.1 82 = .ok (.getfield 77, 3) := by decide +kernel
theorem d_Mo_kindOf_85 : decode m_Mo_kindOf.2.1 85 = .ok (.iload_n 2, 1) := by decide +kernel
theorem d_Mo_kindOf_86 : decode m_Mo_kindOf.2.1 86 = .ok (.iaload, 1) := by decide +kernel
theorem d_Mo_kindOf_87 : decode m_Mo_kindOf.2.1 87 = .ok (.aload_n 0, 1) := by decide +kernel
theorem d_Mo_kindOf_88 : decode m_Mo_kindOf.2.1 88 = .ok (.getfield 83, 3) := by decide +kernel
theorem d_Mo_kindOf_91 : decode m_Mo_kindOf.2.1 91 = .ok (.iload_n 1, 1) := by decide +kernel
theorem d_Mo_kindOf_92 : decode m_Mo_kindOf.2.1 92 = .ok (.iaload, 1) := by decide +kernel
theorem d_Mo_kindOf_93 : decode m_Mo_kindOf.2.1 93 = .ok (.invokevirtual 209, 3) := by decide +kernel
theorem d_Mo_kindOf_96 : decode m_Mo_kindOf.2.1 96 = .ok (.ifCond .ne 31, 3) := by decide +kernel
theorem d_Mo_kindOf_99 : decode m_Mo_kindOf.2.1 99 = .ok (.aload_n 0, 1) := by decide +kernel
theorem d_Mo_kindOf_100 : decode m_Mo_kindOf.2.1 100 = .ok (.aload_n 0, 1) := by decide +kernel
theorem d_Mo_kindOf_101 : decode m_Mo_kindOf.2.1 101 = .ok (.getfield 80, 3) := by decide +kernel
theorem d_Mo_kindOf_104 : decode m_Mo_kindOf.2.1 104 = .ok (.iload_n 2, 1) := by decide +kernel
theorem d_Mo_kindOf_105 : decode m_Mo_kindOf.2.1 105 = .ok (.iaload, 1) := by decide +kernel
theorem d_Mo_kindOf_106 : decode m_Mo_kindOf.2.1 106 = .ok (.aload_n 0, 1) := by decide +kernel
theorem d_Mo_kindOf_107 : decode m_Mo_kindOf.2.1 107 = .ok (.getfield 83, 3) := by decide +kernel
theorem d_Mo_kindOf_110 : decode m_Mo_kindOf.2.1 110 = .ok (.iload_n 1, 1) := by decide +kernel
theorem d_Mo_kindOf_111 : decode m_Mo_kindOf.2.1 111 = .ok (.iaload, 1) := by decide +kernel
theorem d_Mo_kindOf_112 : decode m_Mo_kindOf.2.1 112 = .ok (.invokevirtual 209, 3) := by decide +kernel
theorem d_Mo_kindOf_115 : decode m_Mo_kindOf.2.1 115 = .ok (.ifCond .eq 16, 3) := by decide +kernel
theorem d_Mo_kindOf_118 : decode m_Mo_kindOf.2.1 118 = .ok (.aload_n 0, 1) := by decide +kernel
theorem d_Mo_kindOf_119 : decode m_Mo_kindOf.2.1 119 = .ok (.getfield 86, 3) := by decide +kernel
theorem d_Mo_kindOf_122 : decode m_Mo_kindOf.2.1 122 = .ok (.iload_n 1, 1) := by decide +kernel
theorem d_Mo_kindOf_123 : decode m_Mo_kindOf.2.1 123 = .ok (.baload, 1) := by decide +kernel
theorem d_Mo_kindOf_124 : decode m_Mo_kindOf.2.1 124 = .ok (.ifCond .eq 7, 3) := by decide +kernel
theorem d_Mo_kindOf_127 : decode m_Mo_kindOf.2.1 127 = .ok (.iconst 3, 1) := by decide +kernel
theorem d_Mo_kindOf_128 : decode m_Mo_kindOf.2.1 128 = .ok (.goto 4, 3) := by decide +kernel
theorem d_Mo_kindOf_131 : decode m_Mo_kindOf.2.1 131 = .ok (.iconst 0, 1) := by decide +kernel
theorem d_Mo_kindOf_132 : decode m_Mo_kindOf.2.1 132 = .ok (.ireturn, 1) := by decide +kernel
theorem d_Mo_meets_0 : decode m_Mo_meets.2.1 0 = .ok (.iload_n 2, 1) := by decide +kernel
theorem d_Mo_meets_1 : decode m_Mo_meets.2.1 1 = .ok (.ifCond .lt 16, 3) := by decide +kernel
theorem d_Mo_meets_4 : decode m_Mo_meets.2.1 4 = .ok (.iload_n 1, 1) := by decide +kernel
theorem d_Mo_meets_5 : decode m_Mo_meets.2.1 5 = .ok (.iload_n 2, 1) := by decide +kernel
theorem d_Mo_meets_6 : decode m_Mo_meets.2.1 6 = .ok (.ishr, 1) := by decide +kernel
theorem d_Mo_meets_7 : decode m_Mo_meets.2.1 7 = .ok (.iconst 1, 1) := by decide +kernel
theorem d_Mo_meets_8 : decode m_Mo_meets.2.1 8 = .ok (.iand, 1) := by decide +kernel
theorem d_Mo_meets_9 : decode m_Mo_meets.2.1 9 = .ok (.iconst 1, 1) := by decide +kernel
theorem d_Mo_meets_10 : decode m_Mo_meets.2.1 10 = .ok (.if_icmp .ne 7, 3) := by decide +kernel
theorem d_Mo_meets_13 : decode m_Mo_meets.2.1 13 = .ok (.iconst 1, 1) := by decide +kernel
theorem d_Mo_meets_14 : decode m_Mo_meets.2.1 14 = .ok (.goto 4, 3) := by decide +kernel
theorem d_Mo_meets_17 : decode m_Mo_meets.2.1 17 = .ok (.iconst 0, 1) := by decide +kernel
theorem d_Mo_meets_18 : decode m_Mo_meets.2.1 18 = .ok (.ireturn, 1) := by decide +kernel
theorem d_Mo_tryAhead_0 : decode m_Mo_tryAhead.2.1 0 = .ok (.iconst 0, 1) := by decide +kernel
theorem d_Mo_tryAhead_1 : decode m_Mo_tryAhead.2.1 1 = .ok (.istore_n 3, 1) := by decide +kernel
theorem d_Mo_tryAhead_2 : decode m_Mo_tryAhead.2.1 2 = .ok (.iload_n 3, 1) := by decide +kernel
theorem d_Mo_tryAhead_3 : decode m_Mo_tryAhead.2.1 3 = .ok (.iload_n 2, 1) := by decide +kernel
theorem d_Mo_tryAhead_4 : decode m_Mo_tryAhead.2.1 4 = .ok (.if_icmp .ge 68, 3) := by decide +kernel
theorem d_Mo_tryAhead_7 : decode m_Mo_tryAhead.2.1 7 = .ok (.iload_n 1, 1) := by decide +kernel
theorem d_Mo_tryAhead_8 : decode m_Mo_tryAhead.2.1 8 = .ok (.iconst 2, 1) := by decide +kernel
theorem d_Mo_tryAhead_9 : decode m_Mo_tryAhead.2.1 9 = .ok (.iadd, 1) := by decide +kernel
theorem d_Mo_tryAhead_10 : decode m_Mo_tryAhead.2.1 10 = .ok (.istore 4, 2) := by decide +kernel
theorem d_Mo_tryAhead_12 : decode m_Mo_tryAhead.2.1 12 = .ok (.iload 4, 2) := by decide +kernel
theorem d_Mo_tryAhead_14 : decode m_Mo_tryAhead.2.1 14 = .ok (.aload_n 0, 1) := by decide +kernel
theorem d_Mo_tryAhead_15 : decode m_Mo_tryAhead.2.1 15 = .ok (.getfield 125, 3) := by decide +kernel
theorem d_Mo_tryAhead_18 : decode m_Mo_tryAhead.2.1 18 = .ok (.if_icmp .ge 19, 3) := by decide +kernel
theorem d_Mo_tryAhead_21 : decode m_Mo_tryAhead.2.1 21 = .ok (.aload_n 0, 1) := by decide +kernel
theorem d_Mo_tryAhead_22 : decode m_Mo_tryAhead.2.1 22 = .ok (.iload_n 1, 1) := by decide +kernel
theorem d_Mo_tryAhead_23 : decode m_Mo_tryAhead.2.1 23 = .ok (.iload 4, 2) := by decide +kernel
theorem d_Mo_tryAhead_25 : decode m_Mo_tryAhead.2.1 25 = .ok (.invokevirtual 244, 3) := by decide +kernel
theorem d_Mo_tryAhead_28 : decode m_Mo_tryAhead.2.1 28 = .ok (.ifCond .ne 9, 3) := by decide +kernel
theorem d_Mo_tryAhead_31 : decode m_Mo_tryAhead.2.1 31 = .ok (.iinc 4 1, 3) := by decide +kernel
theorem d_Mo_tryAhead_34 : decode m_Mo_tryAhead.2.1 34 = .ok (.goto (-22), 3) := by decide +kernel
theorem d_Mo_tryAhead_37 : decode m_Mo_tryAhead.2.1 37 = .ok (.iload 4, 2) := by decide +kernel
theorem d_Mo_tryAhead_39 : decode m_Mo_tryAhead.2.1 39 = .ok (.aload_n 0, 1) := by decide +kernel
theorem d_Mo_tryAhead_40 : decode m_Mo_tryAhead.2.1 40 = .ok (.getfield 125, 3) := by decide +kernel
theorem d_Mo_tryAhead_43 : decode m_Mo_tryAhead.2.1 43 = .ok (.if_icmp .lt 5, 3) := by decide +kernel
theorem d_Mo_tryAhead_46 : decode m_Mo_tryAhead.2.1 46 = .ok (.iconst 1, 1) := by decide +kernel
theorem d_Mo_tryAhead_47 : decode m_Mo_tryAhead.2.1 47 = .ok (.ireturn, 1) := by decide +kernel
theorem d_Mo_tryAhead_48 : decode m_Mo_tryAhead.2.1 48 = .ok (.aload_n 0, 1) := by decide +kernel
theorem d_Mo_tryAhead_49 : decode m_Mo_tryAhead.2.1 49 = .ok (.iload 4, 2) := by decide +kernel
theorem d_Mo_tryAhead_51 : decode m_Mo_tryAhead.2.1 51 = .ok (.iconst 1, 1) := by decide +kernel
theorem d_Mo_tryAhead_52 : decode m_Mo_tryAhead.2.1 52 = .ok (.invokevirtual 234, 3) := by decide +kernel
theorem d_Mo_tryAhead_55 : decode m_Mo_tryAhead.2.1 55 = .ok (.aload_n 0, 1) := by decide +kernel
theorem d_Mo_tryAhead_56 : decode m_Mo_tryAhead.2.1 56 = .ok (.iload 4, 2) := by decide +kernel
theorem d_Mo_tryAhead_58 : decode m_Mo_tryAhead.2.1 58 = .ok (.invokevirtual 238, 3) := by decide +kernel
theorem d_Mo_tryAhead_61 : decode m_Mo_tryAhead.2.1 61 = .ok (.ifCond .eq 5, 3) := by decide +kernel
theorem d_Mo_tryAhead_64 : decode m_Mo_tryAhead.2.1 64 = .ok (.iconst 0, 1) := by decide +kernel
theorem d_Mo_tryAhead_65 : decode m_Mo_tryAhead.2.1 65 = .ok (.ireturn, 1) := by decide +kernel
theorem d_Mo_tryAhead_66 : decode m_Mo_tryAhead.2.1 66 = .ok (.iinc 3 1, 3) := by decide +kernel
theorem d_Mo_tryAhead_69 : decode m_Mo_tryAhead.2.1 69 = .ok (.goto (-67), 3) := by decide +kernel
theorem d_Mo_tryAhead_72 : decode m_Mo_tryAhead.2.1 72 = .ok (.iconst 1, 1) := by decide +kernel
theorem d_Mo_tryAhead_73 : decode m_Mo_tryAhead.2.1 73 = .ok (.ireturn, 1) := by decide +kernel
theorem d_Mo_isSafe_0 : decode m_Mo_isSafe.2.1 0 = .ok (.aload_n 0, 1) := by decide +kernel
theorem d_Mo_isSafe_1 : decode m_Mo_isSafe.2.1 1 = .ok (.iload_n 2, 1) := by decide +kernel
theorem d_Mo_isSafe_2 : decode m_Mo_isSafe.2.1 2 = .ok (.invokevirtual 197, 3) := by decide +kernel
theorem d_Mo_isSafe_5 : decode m_Mo_isSafe.2.1 5 = .ok (.istore_n 3, 1) := by decide +kernel
theorem d_Mo_isSafe_6 : decode m_Mo_isSafe.2.1 6 = .ok (.aload_n 0, 1) := by decide +kernel
theorem d_Mo_isSafe_7 : decode m_Mo_isSafe.2.1 7 = .ok (.getfield 64, 3) := by decide +kernel
theorem d_Mo_isSafe_10 : decode m_Mo_isSafe.2.1 10 = .ok (.iload_n 2, 1) := by decide +kernel
theorem d_Mo_isSafe_11 : decode m_Mo_isSafe.2.1 11 = .ok (.baload, 1) := by decide +kernel
theorem d_Mo_isSafe_12 : decode m_Mo_isSafe.2.1 12 = .ok (.ifCond .ne 7, 3) := by decide +kernel
theorem d_Mo_isSafe_15 : decode m_Mo_isSafe.2.1 15 = .ok (.iload_n 3, 1) := by decide +kernel
theorem d_Mo_isSafe_16 : decode m_Mo_isSafe.2.1 16 = .ok (.ifCond .ge 5, 3) := by decide +kernel
theorem d_Mo_isSafe_19 : decode m_Mo_isSafe.2.1 19 = .ok (.iconst 0, 1) := by decide +kernel
theorem d_Mo_isSafe_20 : decode m_Mo_isSafe.2.1 20 = .ok (.ireturn, 1) := by decide +kernel
theorem d_Mo_isSafe_21 : decode m_Mo_isSafe.2.1 21 = .ok (.iload_n 1, 1) := by decide +kernel
theorem d_Mo_isSafe_22 : decode m_Mo_isSafe.2.1 22 = .ok (.iconst 1, 1) := by decide +kernel
theorem d_Mo_isSafe_23 : decode m_Mo_isSafe.2.1 23 = .ok (.iadd, 1) := by decide +kernel
theorem d_Mo_isSafe_24 : decode m_Mo_isSafe.2.1 24 = .ok (.istore 4, 2) := by decide +kernel
theorem d_Mo_isSafe_26 : decode m_Mo_isSafe.2.1 26 = .ok (.iload 4, 2) := by decide +kernel
theorem d_Mo_isSafe_28 : decode m_Mo_isSafe.2.1 28 = .ok (.iload_n 2, 1) := by decide +kernel
theorem d_Mo_isSafe_29 : decode m_Mo_isSafe.2.1 29 = .ok (.if_icmp .ge 47, 3) := by decide +kernel
theorem d_Mo_isSafe_32 : decode m_Mo_isSafe.2.1 32 = .ok (.aload_n 0, 1) := by decide +kernel
theorem d_Mo_isSafe_33 : decode m_Mo_isSafe.2.1 33 = .ok (.getfield 64, 3) := by decide +kernel
theorem d_Mo_isSafe_36 : decode m_Mo_isSafe.2.1 36 = .ok (.iload 4, 2) := by decide +kernel
theorem d_Mo_isSafe_38 : decode m_Mo_isSafe.2.1 38 = .ok (.baload, 1) := by decide +kernel
theorem d_Mo_isSafe_39 : decode m_Mo_isSafe.2.1 39 = .ok (.ifCond .eq 6, 3) := by decide +kernel
theorem d_Mo_isSafe_42 : decode m_Mo_isSafe.2.1 42 = .ok (.goto 28, 3) := by decide +kernel
theorem d_Mo_isSafe_45 : decode m_Mo_isSafe.2.1 45 = .ok (.aload_n 0, 1) := by decide +kernel
theorem d_Mo_isSafe_46 : decode m_Mo_isSafe.2.1 46 = .ok (.iload 4, 2) := by decide +kernel
theorem d_Mo_isSafe_48 : decode m_Mo_isSafe.2.1 48 = .ok (.invokevirtual 197, 3) := by decide +kernel
theorem d_Mo_isSafe_51 : decode m_Mo_isSafe.2.1 51 = .ok (.istore 5, 2) := by decide +kernel
theorem d_Mo_isSafe_53 : decode m_Mo_isSafe.2.1 53 = .ok (.iload 5, 2) := by decide +kernel
theorem d_Mo_isSafe_55 : decode m_Mo_isSafe.2.1 55 = .ok (.ifCond .lt 13, 3) := by decide +kernel
theorem d_Mo_isSafe_58 : decode m_Mo_isSafe.2.1 58 = .ok (.aload_n 0, 1) := by decide +kernel
theorem d_Mo_isSafe_59 : decode m_Mo_isSafe.2.1 59 = .ok (.iload 5, 2) := by decide +kernel
theorem d_Mo_isSafe_61 : decode m_Mo_isSafe.2.1 61 = .ok (.iload_n 3, 1) := by decide +kernel
theorem d_Mo_isSafe_62 : decode m_Mo_isSafe.2.1 62 = .ok (.invokevirtual 231, 3) := by decide +kernel
theorem d_Mo_isSafe_65 : decode m_Mo_isSafe.2.1 65 = .ok (.ifCond .ne 5, 3) := by decide +kernel
theorem d_Mo_isSafe_68 : decode m_Mo_isSafe.2.1 68 = .ok (.iconst 0, 1) := by decide +kernel
theorem d_Mo_isSafe_69 : decode m_Mo_isSafe.2.1 69 = .ok (.ireturn, 1) := by decide +kernel
theorem d_Mo_isSafe_70 : decode m_Mo_isSafe.2.1 70 = .ok (.iinc 4 1, 3) := by decide +kernel
theorem d_Mo_isSafe_73 : decode m_Mo_isSafe.2.1 73 = .ok (.goto (-47), 3) := by decide +kernel
theorem d_Mo_isSafe_76 : decode m_Mo_isSafe.2.1 76 = .ok (.iconst 1, 1) := by decide +kernel
theorem d_Mo_isSafe_77 : decode m_Mo_isSafe.2.1 77 = .ok (.ireturn, 1) := by decide +kernel
theorem d_Mo_apart_0 : decode m_Mo_apart.2.1 0 = .ok (.aload_n 0, 1) := by decide +kernel
theorem d_Mo_apart_1 : decode m_Mo_apart.2.1 1 = .ok (.getfield 37, 3) := by decide +kernel
theorem d_Mo_apart_4 : decode m_Mo_apart.2.1 4 = .ok (.iload_n 1, 1) := by decide +kernel
theorem d_Mo_apart_5 : decode m_Mo_apart.2.1 5 = .ok (.iaload, 1) := by decide +kernel
theorem d_Mo_apart_6 : decode m_Mo_apart.2.1 6 = .ok (.aload_n 0, 1) := by decide +kernel
theorem d_Mo_apart_7 : decode m_Mo_apart.2.1 7 = .ok (.getfield 40, 3) := by decide +kernel
theorem d_Mo_apart_10 : decode m_Mo_apart.2.1 10 = .ok (.iload_n 1, 1) := by decide +kernel
theorem d_Mo_apart_11 : decode m_Mo_apart.2.1 11 = .ok (.iaload, 1) := by decide +kernel
theorem d_Mo_apart_12 : decode m_Mo_apart.2.1 12 = .ok (.ior, 1) := by decide +kernel
theorem d_Mo_apart_13 : decode m_Mo_apart.2.1 13 = .ok (.aload_n 0, 1) := by decide +kernel
theorem d_Mo_apart_14 : decode m_Mo_apart.2.1 14 = .ok (.getfield 52, 3) := by decide +kernel
theorem d_Mo_apart_17 : decode m_Mo_apart.2.1 17 = .ok (.iload_n 1, 1) := by decide +kernel
theorem d_Mo_apart_18 : decode m_Mo_apart.2.1 18 = .ok (.iaload, 1) := by decide +kernel
theorem d_Mo_apart_19 : decode m_Mo_apart.2.1 19 = .ok (.ifCond .ge 7, 3) := by decide +kernel
theorem d_Mo_apart_22 : decode m_Mo_apart.2.1 22 = .ok (.iconst 0, 1) := by decide +kernel
theorem d_Mo_apart_23 : decode m_Mo_apart.2.1 23 = .ok (.goto 11, 3) := by decide +kernel
theorem d_Mo_apart_26 : decode m_Mo_apart.2.1 26 = .ok (.iconst 1, 1) := by decide +kernel
theorem d_Mo_apart_27 : decode m_Mo_apart.2.1 27 = .ok (.aload_n 0, 1) := by decide +kernel
theorem d_Mo_apart_28 : decode m_Mo_apart.2.1 28 = .ok (.getfield 52, 3) := by decide +kernel
theorem d_Mo_apart_31 : decode m_Mo_apart.2.1 31 = .ok (.iload_n 1, 1) := by decide +kernel
theorem d_Mo_apart_32 : decode m_Mo_apart.2.1 32 = .ok (.iaload, 1) := by decide +kernel
theorem d_Mo_apart_33 : decode m_Mo_apart.2.1 33 = .ok (.ishl, 1) := by decide +kernel
theorem d_Mo_apart_34 : decode m_Mo_apart.2.1 34 = .ok (.ior, 1) := by decide +kernel
theorem d_Mo_apart_35 : decode m_Mo_apart.2.1 35 = .ok (.istore_n 3, 1) := by decide +kernel
theorem d_Mo_apart_36 : decode m_Mo_apart.2.1 36 = .ok (.aload_n 0, 1) := by decide +kernel
theorem d_Mo_apart_37 : decode m_Mo_apart.2.1 37 = .ok (.getfield 37, 3) := by decide +kernel
theorem d_Mo_apart_40 : decode m_Mo_apart.2.1 40 = .ok (.iload_n 2, 1) := by decide +kernel
theorem d_Mo_apart_41 : decode m_Mo_apart.2.1 41 = .ok (.iaload, 1) := by decide +kernel
theorem d_Mo_apart_42 : decode m_Mo_apart.2.1 42 = .ok (.aload_n 0, 1) := by decide +kernel
theorem d_Mo_apart_43 : decode m_Mo_apart.2.1 43 = .ok (.getfield 40, 3) := by decide +kernel
theorem d_Mo_apart_46 : decode m_Mo_apart.2.1 46 = .ok (.iload_n 2, 1) := by decide +kernel
theorem d_Mo_apart_47 : decode m_Mo_apart.2.1 47 = .ok (.iaload, 1) := by decide +kernel
theorem d_Mo_apart_48 : decode m_Mo_apart.2.1 48 = .ok (.ior, 1) := by decide +kernel
theorem d_Mo_apart_49 : decode m_Mo_apart.2.1 49 = .ok (.aload_n 0, 1) := by decide +kernel
theorem d_Mo_apart_50 : decode m_Mo_apart.2.1 50 = .ok (.getfield 52, 3) := by decide +kernel
theorem d_Mo_apart_53 : decode m_Mo_apart.2.1 53 = .ok (.iload_n 2, 1) := by decide +kernel
theorem d_Mo_apart_54 : decode m_Mo_apart.2.1 54 = .ok (.iaload, 1) := by decide +kernel
theorem d_Mo_apart_55 : decode m_Mo_apart.2.1 55 = .ok (.ifCond .ge 7, 3) := by decide +kernel
theorem d_Mo_apart_58 : decode m_Mo_apart.2.1 58 = .ok (.iconst 0, 1) := by decide +kernel
theorem d_Mo_apart_59 : decode m_Mo_apart.2.1 59 = .ok (.goto 11, 3) := by decide +kernel
theorem d_Mo_apart_62 : decode m_Mo_apart.2.1 62 = .ok (.iconst 1, 1) := by decide +kernel
theorem d_Mo_apart_63 : decode m_Mo_apart.2.1 63 = .ok (.aload_n 0, 1) := by decide +kernel
theorem d_Mo_apart_64 : decode m_Mo_apart.2.1 64 = .ok (.getfield 52, 3) := by decide +kernel
theorem d_Mo_apart_67 : decode m_Mo_apart.2.1 67 = .ok (.iload_n 2, 1) := by decide +kernel
theorem d_Mo_apart_68 : decode m_Mo_apart.2.1 68 = .ok (.iaload, 1) := by decide +kernel
theorem d_Mo_apart_69 : decode m_Mo_apart.2.1 69 = .ok (.ishl, 1) := by decide +kernel
theorem d_Mo_apart_70 : decode m_Mo_apart.2.1 70 = .ok (.ior, 1) := by decide +kernel
theorem d_Mo_apart_71 : decode m_Mo_apart.2.1 71 = .ok (.istore 4, 2) := by decide +kernel
theorem d_Mo_apart_73 : decode m_Mo_apart.2.1 73 = .ok (.aload_n 0, 1) := by decide +kernel
theorem d_Mo_apart_74 : decode m_Mo_apart.2.1 74 = .ok (.iload 4, 2) := by decide +kernel
theorem d_Mo_apart_76 : decode m_Mo_apart.2.1 76 = .ok (.aload_n 0, 1) := by decide +kernel
theorem d_Mo_apart_77 : decode m_Mo_apart.2.1 77 = .ok (.getfield 52, 3) := by decide +kernel
theorem d_Mo_apart_80 : decode m_Mo_apart.2.1 80 = .ok (.iload_n 1, 1) := by decide +kernel
theorem d_Mo_apart_81 : decode m_Mo_apart.2.1 81 = .ok (.iaload, 1) := by decide +kernel
theorem d_Mo_apart_82 : decode m_Mo_apart.2.1 82 = .ok (.invokevirtual 209, 3) := by decide +kernel
theorem d_Mo_apart_85 : decode m_Mo_apart.2.1 85 = .ok (.ifCond .ne 21, 3) := by decide +kernel
theorem d_Mo_apart_88 : decode m_Mo_apart.2.1 88 = .ok (.aload_n 0, 1) := by decide +kernel
theorem d_Mo_apart_89 : decode m_Mo_apart.2.1 89 = .ok (.iload_n 3, 1) := by decide +kernel
theorem d_Mo_apart_90 : decode m_Mo_apart.2.1 90 = .ok (.aload_n 0, 1) := by decide +kernel
theorem d_Mo_apart_91 : decode m_Mo_apart.2.1 91 = .ok (.getfield 52, 3) := by decide +kernel
theorem d_Mo_apart_94 : decode m_Mo_apart.2.1 94 = .ok (.iload_n 2, 1) := by decide +kernel
theorem d_Mo_apart_95 : decode m_Mo_apart.2.1 95 = .ok (.iaload, 1) := by decide +kernel
theorem d_Mo_apart_96 : decode m_Mo_apart.2.1 96 = .ok (.invokevirtual 209, 3) := by decide +kernel
theorem d_Mo_apart_99 : decode m_Mo_apart.2.1 99 = .ok (.ifCond .ne 7, 3) := by decide +kernel
theorem d_Mo_apart_102 : decode m_Mo_apart.2.1 102 = .ok (.iconst 1, 1) := by decide +kernel
theorem d_Mo_apart_103 : decode m_Mo_apart.2.1 103 = .ok (.goto 4, 3) := by decide +kernel
theorem d_Mo_apart_106 : decode m_Mo_apart.2.1 106 = .ok (.iconst 0, 1) := by decide +kernel
theorem d_Mo_apart_107 : decode m_Mo_apart.2.1 107 = .ok (.ireturn, 1) := by decide +kernel
theorem d_Mo_did_0 : decode m_Mo_did.2.1 0 = .ok (.aload_n 0, 1) := by decide +kernel
theorem d_Mo_did_1 : decode m_Mo_did.2.1 1 = .ok (.iload_n 1, 1) := by decide +kernel
theorem d_Mo_did_2 : decode m_Mo_did.2.1 2 = .ok (.invokevirtual 257, 3) := by decide +kernel
theorem d_Mo_did_5 : decode m_Mo_did.2.1 5 = .ok (.ifCond .eq 27, 3) := by decide +kernel
theorem d_Mo_did_8 : decode m_Mo_did.2.1 8 = .ok (.aload_n 0, 1) := by decide +kernel
theorem d_Mo_did_9 : decode m_Mo_did.2.1 9 = .ok (.getfield 71, 3) := by decide +kernel
theorem d_Mo_did_12 : decode m_Mo_did.2.1 12 = .ok (.iload_n 1, 1) := by decide +kernel
theorem d_Mo_did_13 : decode m_Mo_did.2.1 13 = .ok (.iaload, 1) := by decide +kernel
theorem d_Mo_did_14 : decode m_Mo_did.2.1 14 = .ok (.aload_n 0, 1) := by decide +kernel
theorem d_Mo_did_15 : decode m_Mo_did.2.1 15 = .ok (.getfield 68, 3) := by decide +kernel
theorem d_Mo_did_18 : decode m_Mo_did.2.1 18 = .ok (.iload_n 1, 1) := by decide +kernel
theorem d_Mo_did_19 : decode m_Mo_did.2.1 19 = .ok (.baload, 1) := by decide +kernel
theorem d_Mo_did_20 : decode m_Mo_did.2.1 20 = .ok (.ifCond .eq 7, 3) := by decide +kernel
theorem d_Mo_did_23 : decode m_Mo_did.2.1 23 = .ok (.iconst 4, 1) := by decide +kernel
theorem d_Mo_did_24 : decode m_Mo_did.2.1 24 = .ok (.goto 4, 3) := by decide +kernel
theorem d_Mo_did_27 : decode m_Mo_did.2.1 27 = .ok (.iconst 0, 1) := by decide +kernel
theorem d_Mo_did_28 : decode m_Mo_did.2.1 28 = .ok (.iadd, 1) := by decide +kernel
theorem d_Mo_did_29 : decode m_Mo_did.2.1 29 = .ok (.goto 4, 3) := by decide +kernel
theorem d_Mo_did_32 : decode m_Mo_did.2.1 32 = .ok (.iconst (-1), 1) := by decide +kernel
theorem d_Mo_did_33 : decode m_Mo_did.2.1 33 = .ok (.ireturn, 1) := by decide +kernel
theorem d_Mo_wasRun_0 : decode m_Mo_wasRun.2.1 0 = .ok (.aload_n 0, 1) := by decide +kernel
theorem d_Mo_wasRun_1 : decode m_Mo_wasRun.2.1 1 = .ok (.iconst 0, 1) := by decide +kernel
theorem d_Mo_wasRun_2 : decode m_Mo_wasRun.2.1 2 = .ok (.putfield 89, 3) := by decide +kernel
theorem d_Mo_wasRun_5 : decode m_Mo_wasRun.2.1 5 = .ok (.aload_n 0, 1) := by decide +kernel
theorem d_Mo_wasRun_6 : decode m_Mo_wasRun.2.1 6 = .ok (.getfield 114, 3) := by decide +kernel
theorem d_Mo_wasRun_9 : decode m_Mo_wasRun.2.1 9 = .ok (.ifCond .eq 19, 3) := by decide +kernel
theorem d_Mo_wasRun_12 : decode m_Mo_wasRun.2.1 12 = .ok (.iload_n 1, 1) := by decide +kernel
theorem d_Mo_wasRun_13 : decode m_Mo_wasRun.2.1 13 = .ok (.ifCond .lt 15, 3) := by decide +kernel
theorem d_Mo_wasRun_16 : decode m_Mo_wasRun.2.1 16 = .ok (.iload_n 1, 1) := by decide +kernel
theorem d_Mo_wasRun_17 : decode m_Mo_wasRun.2.1 17 = .ok (.aload_n 0, 1) := by decide +kernel
theorem d_Mo_wasRun_18 : decode m_Mo_wasRun.2.1 18 = .ok (.getfield 125, 3) := by decide +kernel
theorem d_Mo_wasRun_21 : decode m_Mo_wasRun.2.1 21 = .ok (.if_icmp .ge 7, 3) := by decide +kernel
theorem d_Mo_wasRun_24 : decode m_Mo_wasRun.2.1 24 = .ok (.iconst 1, 1) := by decide +kernel
theorem d_Mo_wasRun_25 : decode m_Mo_wasRun.2.1 25 = .ok (.goto 4, 3) := by decide +kernel
theorem d_Mo_wasRun_28 : decode m_Mo_wasRun.2.1 28 = .ok (.iconst 0, 1) := by decide +kernel
theorem d_Mo_wasRun_29 : decode m_Mo_wasRun.2.1 29 = .ok (.ireturn, 1) := by decide +kernel
theorem d_Mo_why_0 : decode m_Mo_why.2.1 0 = .ok (.aload_n 0, 1) := by decide +kernel
theorem d_Mo_why_1 : decode m_Mo_why.2.1 1 = .ok (.iload_n 1, 1) := by decide +kernel
theorem d_Mo_why_2 : decode m_Mo_why.2.1 2 = .ok (.invokevirtual 257, 3) := by decide +kernel
theorem d_Mo_why_5 : decode m_Mo_why.2.1 5 = .ok (.ifCond .eq 22, 3) := by decide +kernel
theorem d_Mo_why_8 : decode m_Mo_why.2.1 8 = .ok (.aload_n 0, 1) := by decide +kernel
theorem d_Mo_why_9 : decode m_Mo_why.2.1 9 = .ok (.getfield 71, 3) := by decide +kernel
theorem d_Mo_why_12 : decode m_Mo_why.2.1 12 = .ok (.iload_n 1, 1) := by decide +kernel
theorem d_Mo_why_13 : decode m_Mo_why.2.1 13 = .ok (.iaload, 1) := by decide +kernel
theorem d_Mo_why_14 : decode m_Mo_why.2.1 14 = .ok (.iconst 1, 1) := by decide +kernel
theorem d_Mo_why_15 : decode m_Mo_why.2.1 15 = .ok (.if_icmp .ne 12, 3) := by decide +kernel
theorem d_Mo_why_18 : decode m_Mo_why.2.1 18 = .ok (.aload_n 0, 1) := by decide +kernel
theorem d_Mo_why_19 : decode m_Mo_why.2.1 19 = .ok (.getfield 74, 3) := by decide +kernel
theorem d_Mo_why_22 : decode m_Mo_why.2.1 22 = .ok (.iload_n 1, 1) := by decide +kernel
theorem d_Mo_why_23 : decode m_Mo_why.2.1 23 = .ok (.iaload, 1) := by decide +kernel
theorem d_Mo_why_24 : decode m_Mo_why.2.1 24 = .ok (.goto 4, 3) := by decide +kernel
theorem d_Mo_why_27 : decode m_Mo_why.2.1 27 = .ok (.iconst (-1), 1) := by decide +kernel
theorem d_Mo_why_28 : decode m_Mo_why.2.1 28 = .ok (.ireturn, 1) := by decide +kernel
theorem d_Mo_hazard_0 : decode m_Mo_hazard.2.1 0 = .ok (.aload_n 0, 1) := by decide +kernel
theorem d_Mo_hazard_1 : decode m_Mo_hazard.2.1 1 = .ok (.iconst 0, 1) := by decide +kernel
theorem d_Mo_hazard_2 : decode m_Mo_hazard.2.1 2 = .ok (.putfield 89, 3) := by decide +kernel
theorem d_Mo_hazard_5 : decode m_Mo_hazard.2.1 5 = .ok (.aload_n 0, 1) := by decide +kernel
theorem d_Mo_hazard_6 : decode m_Mo_hazard.2.1 6 = .ok (.getfield 114, 3) := by decide +kernel
theorem d_Mo_hazard_9 : decode m_Mo_hazard.2.1 9 = .ok (.ifCond .eq 10, 3) := by decide +kernel
theorem d_Mo_hazard_12 : decode m_Mo_hazard.2.1 12 = .ok (.aload_n 0, 1) := by decide +kernel
theorem d_Mo_hazard_13 : decode m_Mo_hazard.2.1 13 = .ok (.getfield 219, 3) := by decide +kernel
theorem d_Mo_hazard_16 : decode m_Mo_hazard.2.1 16 = .ok (.ifCond .ne 5, 3) := by decide +kernel
theorem d_Mo_hazard_19 : decode m_Mo_hazard.2.1 19 = .ok (.iconst (-1), 1) := by decide +kernel
theorem d_Mo_hazard_20 : decode m_Mo_hazard.2.1 20 = .ok (.ireturn, 1) := by decide +kernel
theorem d_Mo_hazard_21 : decode m_Mo_hazard.2.1 21 = .ok (.iload_n 1, 1) := by decide +kernel
theorem d_Mo_hazard_22 : decode m_Mo_hazard.2.1 22 = .ok (.tableswitch 50 0 3 #[30, 35, 40, 45], 30) := by decide +kernel
theorem d_Mo_hazard_52 : decode m_Mo_hazard.2.1 52 = .ok (.aload_n 0, 1) := by decide +kernel
theorem d_Mo_hazard_53 : decode m_Mo_hazard.2.1 53 = .ok (.getfield 219, 3) := by decide +kernel
theorem d_Mo_hazard_56 : decode m_Mo_hazard.2.1 56 = .ok (.ireturn, 1) := by decide +kernel
theorem d_Mo_hazard_57 : decode m_Mo_hazard.2.1 57 = .ok (.aload_n 0, 1) := by decide +kernel
theorem d_Mo_hazard_58 : decode m_Mo_hazard.2.1 58 = .ok (.getfield 222, 3) := by decide +kernel
theorem d_Mo_hazard_61 : decode m_Mo_hazard.2.1 61 = .ok (.ireturn, 1) := by decide +kernel
theorem d_Mo_hazard_62 : decode m_Mo_hazard.2.1 62 = .ok (.aload_n 0, 1) := by decide +kernel
theorem d_Mo_hazard_63 : decode m_Mo_hazard.2.1 63 = .ok (.getfield 225, 3) := by decide +kernel
theorem d_Mo_hazard_66 : decode m_Mo_hazard.2.1 66 = .ok (.ireturn, 1) := by decide +kernel
theorem d_Mo_hazard_67 : decode m_Mo_hazard.2.1 67 = .ok (.aload_n 0, 1) := by decide +kernel
theorem d_Mo_hazard_68 : decode m_Mo_hazard.2.1 68 = .ok (.getfield 228, 3) := by decide +kernel
theorem d_Mo_hazard_71 : decode m_Mo_hazard.2.1 71 = .ok (.ireturn, 1) := by decide +kernel
theorem d_Mo_hazard_72 : decode m_Mo_hazard.2.1 72 = .ok (.iconst (-1), 1) := by decide +kernel
theorem d_Mo_hazard_73 : decode m_Mo_hazard.2.1 73 = .ok (.ireturn, 1) := by decide +kernel
theorem d_Mo_again_0 : decode m_Mo_again.2.1 0 = .ok (.aload_n 0, 1) := by decide +kernel
theorem d_Mo_again_1 : decode m_Mo_again.2.1 1 = .ok (.iconst 0, 1) := by decide +kernel
theorem d_Mo_again_2 : decode m_Mo_again.2.1 2 = .ok (.putfield 89, 3) := by decide +kernel
theorem d_Mo_again_5 : decode m_Mo_again.2.1 5 = .ok (.aload_n 0, 1) := by decide +kernel
theorem d_Mo_again_6 : decode m_Mo_again.2.1 6 = .ok (.getfield 254, 3) := by decide +kernel
theorem d_Mo_again_9 : decode m_Mo_again.2.1 9 = .ok (.ireturn, 1) := by decide +kernel
theorem d_Mo_traces_0 : decode m_Mo_traces.2.1 0 = .ok (.aload_n 0, 1) := by decide +kernel
theorem d_Mo_traces_1 : decode m_Mo_traces.2.1 1 = .ok (.iconst 0, 1) := by decide +kernel
theorem d_Mo_traces_2 : decode m_Mo_traces.2.1 2 = .ok (.putfield 89, 3) := by decide +kernel
theorem d_Mo_traces_5 : decode m_Mo_traces.2.1 5 = .ok (.aload_n 0, 1) := by decide +kernel
theorem d_Mo_traces_6 : decode m_Mo_traces.2.1 6 = .ok (.getfield 176, 3) := by decide +kernel
theorem d_Mo_traces_9 : decode m_Mo_traces.2.1 9 = .ok (.ireturn, 1) := by decide +kernel
theorem d_Mo_trace_0 : decode m_Mo_trace.2.1 0 = .ok (.aload_n 0, 1) := by decide +kernel
theorem d_Mo_trace_1 : decode m_Mo_trace.2.1 1 = .ok (.iconst 0, 1) := by decide +kernel
theorem d_Mo_trace_2 : decode m_Mo_trace.2.1 2 = .ok (.putfield 89, 3) := by decide +kernel
theorem d_Mo_trace_5 : decode m_Mo_trace.2.1 5 = .ok (.iload_n 1, 1) := by decide +kernel
theorem d_Mo_trace_6 : decode m_Mo_trace.2.1 6 = .ok (.ifCond .lt 11, 3) := by decide +kernel
theorem d_Mo_trace_9 : decode m_Mo_trace.2.1 9 = .ok (.iload_n 1, 1) := by decide +kernel
theorem d_Mo_trace_10 : decode m_Mo_trace.2.1 10 = .ok (.aload_n 0, 1) := by decide +kernel
theorem d_Mo_trace_11 : decode m_Mo_trace.2.1 11 = .ok (.getfield 176, 3) := by decide +kernel
theorem d_Mo_trace_14 : decode m_Mo_trace.2.1 14 = .ok (.if_icmp .lt 9, 3) := by decide +kernel
theorem d_Mo_trace_17 : decode m_Mo_trace.2.1 17 = .ok (.aload_n 0, 1) := by decide +kernel
theorem d_Mo_trace_18 : decode m_Mo_trace.2.1 18 = .ok (.iconst 1, 1) := by decide +kernel
theorem d_Mo_trace_19 : decode m_Mo_trace.2.1 19 = .ok (.invokevirtual 122, 3) := by decide +kernel
theorem d_Mo_trace_22 : decode m_Mo_trace.2.1 22 = .ok (.ireturn, 1) := by decide +kernel
theorem d_Mo_trace_23 : decode m_Mo_trace.2.1 23 = .ok (.iload_n 2, 1) := by decide +kernel
theorem d_Mo_trace_24 : decode m_Mo_trace.2.1 24 = .ok (.tableswitch 84 0 4 #[36, 43, 50, 57, 64], 36) := by decide +kernel
theorem d_Mo_trace_60 : decode m_Mo_trace.2.1 60 = .ok (.aload_n 0, 1) := by decide +kernel
theorem d_Mo_trace_61 : decode m_Mo_trace.2.1 61 = .ok (.getfield 31, 3) := by decide +kernel
theorem d_Mo_trace_64 : decode m_Mo_trace.2.1 64 = .ok (.iload_n 1, 1) := by decide +kernel
theorem d_Mo_trace_65 : decode m_Mo_trace.2.1 65 = .ok (.iaload, 1) := by decide +kernel
theorem d_Mo_trace_66 : decode m_Mo_trace.2.1 66 = .ok (.ireturn, 1) := by decide +kernel
theorem d_Mo_trace_67 : decode m_Mo_trace.2.1 67 = .ok (.aload_n 0, 1) := by decide +kernel
theorem d_Mo_trace_68 : decode m_Mo_trace.2.1 68 = .ok (.getfield 37, 3) := by decide +kernel
theorem d_Mo_trace_71 : decode m_Mo_trace.2.1 71 = .ok (.iload_n 1, 1) := by decide +kernel
theorem d_Mo_trace_72 : decode m_Mo_trace.2.1 72 = .ok (.iaload, 1) := by decide +kernel
theorem d_Mo_trace_73 : decode m_Mo_trace.2.1 73 = .ok (.ireturn, 1) := by decide +kernel
theorem d_Mo_trace_74 : decode m_Mo_trace.2.1 74 = .ok (.aload_n 0, 1) := by decide +kernel
theorem d_Mo_trace_75 : decode m_Mo_trace.2.1 75 = .ok (.getfield 40, 3) := by decide +kernel
theorem d_Mo_trace_78 : decode m_Mo_trace.2.1 78 = .ok (.iload_n 1, 1) := by decide +kernel
theorem d_Mo_trace_79 : decode m_Mo_trace.2.1 79 = .ok (.iaload, 1) := by decide +kernel
theorem d_Mo_trace_80 : decode m_Mo_trace.2.1 80 = .ok (.ireturn, 1) := by decide +kernel
theorem d_Mo_trace_81 : decode m_Mo_trace.2.1 81 = .ok (.aload_n 0, 1) := by decide +kernel
theorem d_Mo_trace_82 : decode m_Mo_trace.2.1 82 = .ok (.getfield 52, 3) := by decide +kernel
theorem d_Mo_trace_85 : decode m_Mo_trace.2.1 85 = .ok (.iload_n 1, 1) := by decide +kernel
theorem d_Mo_trace_86 : decode m_Mo_trace.2.1 86 = .ok (.iaload, 1) := by decide +kernel
theorem d_Mo_trace_87 : decode m_Mo_trace.2.1 87 = .ok (.ireturn, 1) := by decide +kernel
theorem d_Mo_trace_88 : decode m_Mo_trace.2.1 88 = .ok (.aload_n 0, 1) := by decide +kernel
theorem d_Mo_trace_89 : decode m_Mo_trace.2.1 89 = .ok (.getfield 52, 3) := by decide +kernel
theorem d_Mo_trace_92 : decode m_Mo_trace.2.1 92 = .ok (.iload_n 1, 1) := by decide +kernel
theorem d_Mo_trace_93 : decode m_Mo_trace.2.1 93 = .ok (.iaload, 1) := by decide +kernel
theorem d_Mo_trace_94 : decode m_Mo_trace.2.1 94 = .ok (.ifCond .ge 7, 3) := by decide +kernel
theorem d_Mo_trace_97 : decode m_Mo_trace.2.1 97 = .ok (.iconst (-1), 1) := by decide +kernel
theorem d_Mo_trace_98 : decode m_Mo_trace.2.1 98 = .ok (.goto 9, 3) := by decide +kernel
theorem d_Mo_trace_101 : decode m_Mo_trace.2.1 101 = .ok (.aload_n 0, 1) := by decide +kernel
theorem d_Mo_trace_102 : decode m_Mo_trace.2.1 102 = .ok (.getfield 55, 3) := by decide +kernel
theorem d_Mo_trace_105 : decode m_Mo_trace.2.1 105 = .ok (.iload_n 1, 1) := by decide +kernel
theorem d_Mo_trace_106 : decode m_Mo_trace.2.1 106 = .ok (.iaload, 1) := by decide +kernel
theorem d_Mo_trace_107 : decode m_Mo_trace.2.1 107 = .ok (.ireturn, 1) := by decide +kernel
theorem d_Mo_trace_108 : decode m_Mo_trace.2.1 108 = .ok (.iconst (-1), 1) := by decide +kernel
theorem d_Mo_trace_109 : decode m_Mo_trace.2.1 109 = .ok (.ireturn, 1) := by decide +kernel
theorem d_Mo_tear_0 : decode m_Mo_tear.2.1 0 = .ok (.aload_n 0, 1) := by decide +kernel
theorem d_Mo_tear_1 : decode m_Mo_tear.2.1 1 = .ok (.iconst 0, 1) := by decide +kernel
theorem d_Mo_tear_2 : decode m_Mo_tear.2.1 2 = .ok (.putfield 89, 3) := by decide +kernel
theorem d_Mo_tear_5 : decode m_Mo_tear.2.1 5 = .ok (.iload_n 1, 1) := by decide +kernel
theorem d_Mo_tear_6 : decode m_Mo_tear.2.1 6 = .ok (.ifCond .lt 11, 3) := by decide +kernel
theorem d_Mo_tear_9 : decode m_Mo_tear.2.1 9 = .ok (.iload_n 1, 1) := by decide +kernel
theorem d_Mo_tear_10 : decode m_Mo_tear.2.1 10 = .ok (.aload_n 0, 1) := by decide +kernel
theorem d_Mo_tear_11 : decode m_Mo_tear.2.1 11 = .ok (.getfield 176, 3) := by decide +kernel
theorem d_Mo_tear_14 : decode m_Mo_tear.2.1 14 = .ok (.if_icmp .lt 5, 3) := by decide +kernel
theorem d_Mo_tear_17 : decode m_Mo_tear.2.1 17 = .ok (.iconst 0, 1) := by decide +kernel
theorem d_Mo_tear_18 : decode m_Mo_tear.2.1 18 = .ok (.ireturn, 1) := by decide +kernel
theorem d_Mo_tear_19 : decode m_Mo_tear.2.1 19 = .ok (.aload_n 0, 1) := by decide +kernel
theorem d_Mo_tear_20 : decode m_Mo_tear.2.1 20 = .ok (.iload_n 1, 1) := by decide +kernel
theorem d_Mo_tear_21 : decode m_Mo_tear.2.1 21 = .ok (.putfield 176, 3) := by decide +kernel
theorem d_Mo_tear_24 : decode m_Mo_tear.2.1 24 = .ok (.iconst 1, 1) := by decide +kernel
theorem d_Mo_tear_25 : decode m_Mo_tear.2.1 25 = .ok (.ireturn, 1) := by decide +kernel
theorem d_Mo_compact_0 : decode m_Mo_compact.2.1 0 = .ok (.aload_n 0, 1) := by decide +kernel
theorem d_Mo_compact_1 : decode m_Mo_compact.2.1 1 = .ok (.iconst 0, 1) := by decide +kernel
theorem d_Mo_compact_2 : decode m_Mo_compact.2.1 2 = .ok (.putfield 89, 3) := by decide +kernel
theorem d_Mo_compact_5 : decode m_Mo_compact.2.1 5 = .ok (.iconst 0, 1) := by decide +kernel
theorem d_Mo_compact_6 : decode m_Mo_compact.2.1 6 = .ok (.istore_n 1, 1) := by decide +kernel
theorem d_Mo_compact_7 : decode m_Mo_compact.2.1 7 = .ok (.aload_n 0, 1) := by decide +kernel
theorem d_Mo_compact_8 : decode m_Mo_compact.2.1 8 = .ok (.getfield 176, 3) := by decide +kernel
theorem d_Mo_compact_11 : decode m_Mo_compact.2.1 11 = .ok (.istore_n 2, 1) := by decide +kernel
theorem d_Mo_compact_12 : decode m_Mo_compact.2.1 12 = .ok (.iconst 0, 1) := by decide +kernel
theorem d_Mo_compact_13 : decode m_Mo_compact.2.1 13 = .ok (.istore_n 3, 1) := by decide +kernel
theorem d_Mo_compact_14 : decode m_Mo_compact.2.1 14 = .ok (.iload_n 3, 1) := by decide +kernel
theorem d_Mo_compact_15 : decode m_Mo_compact.2.1 15 = .ok (.iload_n 2, 1) := by decide +kernel
theorem d_Mo_compact_16 : decode m_Mo_compact.2.1 16 = .ok (.if_icmp .ge 68, 3) := by decide +kernel
theorem d_Mo_compact_19 : decode m_Mo_compact.2.1 19 = .ok (.iconst 0, 1) := by decide +kernel
theorem d_Mo_compact_20 : decode m_Mo_compact.2.1 20 = .ok (.istore 4, 2) := by decide +kernel
theorem d_Mo_compact_22 : decode m_Mo_compact.2.1 22 = .ok (.iload_n 3, 1) := by decide +kernel
theorem d_Mo_compact_23 : decode m_Mo_compact.2.1 23 = .ok (.iconst 1, 1) := by decide +kernel
theorem d_Mo_compact_24 : decode m_Mo_compact.2.1 24 = .ok (.iadd, 1) := by decide +kernel
theorem d_Mo_compact_25 : decode m_Mo_compact.2.1 25 = .ok (.istore 5, 2) := by decide +kernel
theorem d_Mo_compact_27 : decode m_Mo_compact.2.1 27 = .ok (.iload 5, 2) := by decide +kernel
theorem d_Mo_compact_29 : decode m_Mo_compact.2.1 29 = .ok (.iload_n 2, 1) := by decide +kernel
theorem d_Mo_compact_30 : decode m_Mo_compact.2.1 30 = .ok (.if_icmp .ge 31, 3) := by decide +kernel
theorem d_Mo_compact_33 : decode m_Mo_compact.2.1 33 = .ok (.iload 4, 2) := by decide +kernel
theorem d_Mo_compact_35 : decode m_Mo_compact.2.1 35 = .ok (.ifCond .ne 13, 3) := by decide +kernel
theorem d_Mo_compact_38 : decode m_Mo_compact.2.1 38 = .ok (.aload_n 0, 1) := by decide +kernel
theorem d_Mo_compact_39 : decode m_Mo_compact.2.1 39 = .ok (.iload_n 3, 1) := by decide +kernel
theorem d_Mo_compact_40 : decode m_Mo_compact.2.1 40 = .ok (.iload 5, 2) := by decide +kernel
theorem d_Mo_compact_42 : decode m_Mo_compact.2.1 42 = .ok (.invokevirtual 260, 3) := by decide +kernel
theorem d_Mo_compact_45 : decode m_Mo_compact.2.1 45 = .ok (.ifCond .eq 7, 3) := by decide +kernel
theorem d_Mo_compact_48 : decode m_Mo_compact.2.1 48 = .ok (.iconst 1, 1) := by decide +kernel
theorem d_Mo_compact_49 : decode m_Mo_compact.2.1 49 = .ok (.goto 4, 3) := by decide +kernel
theorem d_Mo_compact_52 : decode m_Mo_compact.2.1 52 = .ok (.iconst 0, 1) := by decide +kernel
theorem d_Mo_compact_53 : decode m_Mo_compact.2.1 53 = .ok (.istore 4, 2) := by decide +kernel
theorem d_Mo_compact_55 : decode m_Mo_compact.2.1 55 = .ok (.iinc 5 1, 3) := by decide +kernel
theorem d_Mo_compact_58 : decode m_Mo_compact.2.1 58 = .ok (.goto (-31), 3) := by decide +kernel
theorem d_Mo_compact_61 : decode m_Mo_compact.2.1 61 = .ok (.iload 4, 2) := by decide +kernel
theorem d_Mo_compact_63 : decode m_Mo_compact.2.1 63 = .ok (.ifCond .eq 6, 3) := by decide +kernel
theorem d_Mo_compact_66 : decode m_Mo_compact.2.1 66 = .ok (.goto 12, 3) := by decide +kernel
theorem d_Mo_compact_69 : decode m_Mo_compact.2.1 69 = .ok (.aload_n 0, 1) := by decide +kernel
theorem d_Mo_compact_70 : decode m_Mo_compact.2.1 70 = .ok (.iload_n 3, 1) := by decide +kernel
theorem d_Mo_compact_71 : decode m_Mo_compact.2.1 71 = .ok (.iload_n 1, 1) := by decide +kernel
theorem d_Mo_compact_72 : decode m_Mo_compact.2.1 72 = .ok (.invokevirtual 188, 3) := by decide +kernel
theorem d_Mo_compact_75 : decode m_Mo_compact.2.1 75 = .ok (.iinc 1 1, 3) := by decide +kernel
theorem d_Mo_compact_78 : decode m_Mo_compact.2.1 78 = .ok (.iinc 3 1, 3) := by decide +kernel
theorem d_Mo_compact_81 : decode m_Mo_compact.2.1 81 = .ok (.goto (-67), 3) := by decide +kernel
theorem d_Mo_compact_84 : decode m_Mo_compact.2.1 84 = .ok (.aload_n 0, 1) := by decide +kernel
theorem d_Mo_compact_85 : decode m_Mo_compact.2.1 85 = .ok (.iload_n 1, 1) := by decide +kernel
theorem d_Mo_compact_86 : decode m_Mo_compact.2.1 86 = .ok (.putfield 176, 3) := by decide +kernel
theorem d_Mo_compact_89 : decode m_Mo_compact.2.1 89 = .ok (.iload_n 2, 1) := by decide +kernel
theorem d_Mo_compact_90 : decode m_Mo_compact.2.1 90 = .ok (.iload_n 1, 1) := by decide +kernel
theorem d_Mo_compact_91 : decode m_Mo_compact.2.1 91 = .ok (.isub, 1) := by decide +kernel
theorem d_Mo_compact_92 : decode m_Mo_compact.2.1 92 = .ok (.ireturn, 1) := by decide +kernel
theorem d_Mo_sameText_0 : decode m_Mo_sameText.2.1 0 = .ok (.aload_n 0, 1) := by decide +kernel
theorem d_Mo_sameText_1 : decode m_Mo_sameText.2.1 1 = .ok (.getfield 31, 3) := by decide +kernel
theorem d_Mo_sameText_4 : decode m_Mo_sameText.2.1 4 = .ok (.iload_n 1, 1) := by decide +kernel
theorem d_Mo_sameText_5 : decode m_Mo_sameText.2.1 5 = .ok (.iaload, 1) := by decide +kernel
theorem d_Mo_sameText_6 : decode m_Mo_sameText.2.1 6 = .ok (.aload_n 0, 1) := by decide +kernel
theorem d_Mo_sameText_7 : decode m_Mo_sameText.2.1 7 = .ok (.getfield 31, 3) := by decide +kernel
theorem d_Mo_sameText_10 : decode m_Mo_sameText.2.1 10 = .ok (.iload_n 2, 1) := by decide +kernel
theorem d_Mo_sameText_11 : decode m_Mo_sameText.2.1 11 = .ok (.iaload, 1) := by decide +kernel
theorem d_Mo_sameText_12 : decode m_Mo_sameText.2.1 12 = .ok (.if_icmp .ne 7, 3) := by decide +kernel
theorem d_Mo_sameText_15 : decode m_Mo_sameText.2.1 15 = .ok (.iconst 1, 1) := by decide +kernel
theorem d_Mo_sameText_16 : decode m_Mo_sameText.2.1 16 = .ok (.goto 4, 3) := by decide +kernel
theorem d_Mo_sameText_19 : decode m_Mo_sameText.2.1 19 = .ok (.iconst 0, 1) := by decide +kernel
theorem d_Mo_sameText_20 : decode m_Mo_sameText.2.1 20 = .ok (.istore_n 3, 1) := by decide +kernel
theorem d_Mo_sameText_21 : decode m_Mo_sameText.2.1 21 = .ok (.iconst 0, 1) := by decide +kernel
theorem d_Mo_sameText_22 : decode m_Mo_sameText.2.1 22 = .ok (.istore 4, 2) := by decide +kernel
theorem d_Mo_sameText_24 : decode m_Mo_sameText.2.1 24 = .ok (.iload 4, 2) := by decide +kernel
theorem d_Mo_sameText_26 : decode m_Mo_sameText.2.1 26 = .ok (.aload_n 0, 1) := by decide +kernel
theorem d_Mo_sameText_27 : decode m_Mo_sameText.2.1 27 = .ok (.getfield 31, 3) := by decide +kernel
theorem d_Mo_sameText_30 : decode m_Mo_sameText.2.1 30 = .ok (.iload_n 1, 1) := by decide +kernel
theorem d_Mo_sameText_31 : decode m_Mo_sameText.2.1 31 = .ok (.iaload, 1) := by decide +kernel
theorem d_Mo_sameText_32 : decode m_Mo_sameText.2.1 32 = .ok (.if_icmp .ge 46, 3) := by decide +kernel
theorem d_Mo_sameText_35 : decode m_Mo_sameText.2.1 35 = .ok (.iload_n 3, 1) := by decide +kernel
theorem d_Mo_sameText_36 : decode m_Mo_sameText.2.1 36 = .ok (.ifCond .eq 42, 3) := by decide +kernel
theorem d_Mo_sameText_39 : decode m_Mo_sameText.2.1 39 = .ok (.aload_n 0, 1) := by decide +kernel
theorem d_Mo_sameText_40 : decode m_Mo_sameText.2.1 40 = .ok (.getfield 34, 3) := by decide +kernel
theorem d_Mo_sameText_43 : decode m_Mo_sameText.2.1 43 = .ok (.bipush 12, 2) := by decide +kernel
theorem d_Mo_sameText_45 : decode m_Mo_sameText.2.1 45 = .ok (.iload_n 1, 1) := by decide +kernel
theorem d_Mo_sameText_46 : decode m_Mo_sameText.2.1 46 = .ok (.imul, 1) := by decide +kernel
theorem d_Mo_sameText_47 : decode m_Mo_sameText.2.1 47 = .ok (.iload 4, 2) := by decide +kernel
theorem d_Mo_sameText_49 : decode m_Mo_sameText.2.1 49 = .ok (.iadd, 1) := by decide +kernel
theorem d_Mo_sameText_50 : decode m_Mo_sameText.2.1 50 = .ok (.iaload, 1) := by decide +kernel
theorem d_Mo_sameText_51 : decode m_Mo_sameText.2.1 51 = .ok (.aload_n 0, 1) := by decide +kernel
theorem d_Mo_sameText_52 : decode m_Mo_sameText.2.1 52 = .ok (.getfield 34, 3) := by decide +kernel
theorem d_Mo_sameText_55 : decode m_Mo_sameText.2.1 55 = .ok (.bipush 12, 2) := by decide +kernel
theorem d_Mo_sameText_57 : decode m_Mo_sameText.2.1 57 = .ok (.iload_n 2, 1) := by decide +kernel
theorem d_Mo_sameText_58 : decode m_Mo_sameText.2.1 58 = .ok (.imul, 1) := by decide +kernel
theorem d_Mo_sameText_59 : decode m_Mo_sameText.2.1 59 = .ok (.iload 4, 2) := by decide +kernel
theorem d_Mo_sameText_61 : decode m_Mo_sameText.2.1 61 = .ok (.iadd, 1) := by decide +kernel
theorem d_Mo_sameText_62 : decode m_Mo_sameText.2.1 62 = .ok (.iaload, 1) := by decide +kernel
theorem d_Mo_sameText_63 : decode m_Mo_sameText.2.1 63 = .ok (.if_icmp .ne 7, 3) := by decide +kernel
theorem d_Mo_sameText_66 : decode m_Mo_sameText.2.1 66 = .ok (.iconst 1, 1) := by decide +kernel
theorem d_Mo_sameText_67 : decode m_Mo_sameText.2.1 67 = .ok (.goto 4, 3) := by decide +kernel
theorem d_Mo_sameText_70 : decode m_Mo_sameText.2.1 70 = .ok (.iconst 0, 1) := by decide +kernel
theorem d_Mo_sameText_71 : decode m_Mo_sameText.2.1 71 = .ok (.istore_n 3, 1) := by decide +kernel
theorem d_Mo_sameText_72 : decode m_Mo_sameText.2.1 72 = .ok (.iinc 4 1, 3) := by decide +kernel
theorem d_Mo_sameText_75 : decode m_Mo_sameText.2.1 75 = .ok (.goto (-51), 3) := by decide +kernel
theorem d_Mo_sameText_78 : decode m_Mo_sameText.2.1 78 = .ok (.iload_n 3, 1) := by decide +kernel
theorem d_Mo_sameText_79 : decode m_Mo_sameText.2.1 79 = .ok (.ireturn, 1) := by decide +kernel
theorem d_Mo_size_0 : decode m_Mo_size.2.1 0 = .ok (.aload_n 0, 1) := by decide +kernel
theorem d_Mo_size_1 : decode m_Mo_size.2.1 1 = .ok (.iconst 0, 1) := by decide +kernel
theorem d_Mo_size_2 : decode m_Mo_size.2.1 2 = .ok (.putfield 89, 3) := by decide +kernel
theorem d_Mo_size_5 : decode m_Mo_size.2.1 5 = .ok (.iload_n 1, 1) := by decide +kernel
theorem d_Mo_size_6 : decode m_Mo_size.2.1 6 = .ok (.invokestatic 96, 3) := by decide +kernel
theorem d_Mo_size_9 : decode m_Mo_size.2.1 9 = .ok (.ifCond .eq 12, 3) := by decide +kernel
theorem d_Mo_size_12 : decode m_Mo_size.2.1 12 = .ok (.aload_n 0, 1) := by decide +kernel
theorem d_Mo_size_13 : decode m_Mo_size.2.1 13 = .ok (.getfield 7, 3) := by decide +kernel
theorem d_Mo_size_16 : decode m_Mo_size.2.1 16 = .ok (.iload_n 1, 1) := by decide +kernel
theorem d_Mo_size_17 : decode m_Mo_size.2.1 17 = .ok (.iaload, 1) := by decide +kernel
theorem d_Mo_size_18 : decode m_Mo_size.2.1 18 = .ok (.goto 4, 3) := by decide +kernel
theorem d_Mo_size_21 : decode m_Mo_size.2.1 21 = .ok (.iconst (-1), 1) := by decide +kernel
theorem d_Mo_size_22 : decode m_Mo_size.2.1 22 = .ok (.ireturn, 1) := by decide +kernel
theorem d_Mo_number_0 : decode m_Mo_number.2.1 0 = .ok (.aload_n 0, 1) := by decide +kernel
theorem d_Mo_number_1 : decode m_Mo_number.2.1 1 = .ok (.iconst 0, 1) := by decide +kernel
theorem d_Mo_number_2 : decode m_Mo_number.2.1 2 = .ok (.putfield 89, 3) := by decide +kernel
theorem d_Mo_number_5 : decode m_Mo_number.2.1 5 = .ok (.iload_n 1, 1) := by decide +kernel
theorem d_Mo_number_6 : decode m_Mo_number.2.1 6 = .ok (.invokestatic 96, 3) := by decide +kernel
theorem d_Mo_number_9 : decode m_Mo_number.2.1 9 = .ok (.ifCond .eq 17, 3) := by decide +kernel
theorem d_Mo_number_12 : decode m_Mo_number.2.1 12 = .ok (.iload_n 2, 1) := by decide +kernel
theorem d_Mo_number_13 : decode m_Mo_number.2.1 13 = .ok (.ifCond .lt 13, 3) := by decide +kernel
theorem d_Mo_number_16 : decode m_Mo_number.2.1 16 = .ok (.iload_n 2, 1) := by decide +kernel
theorem d_Mo_number_17 : decode m_Mo_number.2.1 17 = .ok (.aload_n 0, 1) := by decide +kernel
theorem d_Mo_number_18 : decode m_Mo_number.2.1 18 = .ok (.getfield 7, 3) := by decide +kernel
theorem d_Mo_number_21 : decode m_Mo_number.2.1 21 = .ok (.iload_n 1, 1) := by decide +kernel
theorem d_Mo_number_22 : decode m_Mo_number.2.1 22 = .ok (.iaload, 1) := by decide +kernel
theorem d_Mo_number_23 : decode m_Mo_number.2.1 23 = .ok (.if_icmp .lt 10, 3) := by decide +kernel
theorem d_Mo_number_26 : decode m_Mo_number.2.1 26 = .ok (.aload_n 0, 1) := by decide +kernel
theorem d_Mo_number_27 : decode m_Mo_number.2.1 27 = .ok (.iconst 1, 1) := by decide +kernel
theorem d_Mo_number_28 : decode m_Mo_number.2.1 28 = .ok (.invokevirtual 122, 3) := by decide +kernel
theorem d_Mo_number_31 : decode m_Mo_number.2.1 31 = .ok (.i2s, 1) := by decide +kernel
theorem d_Mo_number_32 : decode m_Mo_number.2.1 32 = .ok (.ireturn, 1) := by decide +kernel
theorem d_Mo_number_33 : decode m_Mo_number.2.1 33 = .ok (.aload_n 0, 1) := by decide +kernel
theorem d_Mo_number_34 : decode m_Mo_number.2.1 34 = .ok (.getfield 13, 3) := by decide +kernel
theorem d_Mo_number_37 : decode m_Mo_number.2.1 37 = .ok (.bipush 6, 2) := by decide +kernel
theorem d_Mo_number_39 : decode m_Mo_number.2.1 39 = .ok (.iload_n 1, 1) := by decide +kernel
theorem d_Mo_number_40 : decode m_Mo_number.2.1 40 = .ok (.imul, 1) := by decide +kernel
theorem d_Mo_number_41 : decode m_Mo_number.2.1 41 = .ok (.iload_n 2, 1) := by decide +kernel
theorem d_Mo_number_42 : decode m_Mo_number.2.1 42 = .ok (.iadd, 1) := by decide +kernel
theorem d_Mo_number_43 : decode m_Mo_number.2.1 43 = .ok (.iaload, 1) := by decide +kernel
theorem d_Mo_number_44 : decode m_Mo_number.2.1 44 = .ok (.i2s, 1) := by decide +kernel
theorem d_Mo_number_45 : decode m_Mo_number.2.1 45 = .ok (.ireturn, 1) := by decide +kernel
end
section
/-! Rows that decode: laid by program. -/
theorem d_La_command_0 : decode m_La_command.2.1 0 = .ok (.aload_n 1, 1) := by decide +kernel
theorem d_La_command_1 : decode m_La_command.2.1 1 = .ok (.iconst 0, 1) := by decide +kernel
theorem d_La_command_2 : decode m_La_command.2.1 2 = .ok (.aload_n 0, 1) := by decide +kernel
theorem d_La_command_3 : decode m_La_command.2.1 3 = .ok (.invokevirtual 7, 3) := by decide +kernel
theorem d_La_command_6 : decode m_La_command.2.1 6 = .ok (.i2l, 1) := by decide +kernel
theorem d_La_command_7 : decode m_La_command.2.1 7 = .ok (.lastore, 1) := by decide +kernel
theorem d_La_command_8 : decode m_La_command.2.1 8 = .ok (.goto 9, 3) := by decide +kernel
theorem d_La_command_11 : decode m_La_command.2.1 11 = .ok (.astore_n 2, 1) := by decide +kernel
theorem d_La_command_12 : decode m_La_command.2.1 12 = .ok (.iconst 1, 1) := by decide +kernel
theorem d_La_command_13 : decode m_La_command.2.1 13 = .ok (.ireturn, 1) := by decide +kernel
theorem d_La_command_14 : decode m_La_command.2.1 14 = .ok (.astore_n 2, 1) := by decide +kernel
theorem d_La_command_15 : decode m_La_command.2.1 15 = .ok (.iconst 2, 1) := by decide +kernel
theorem d_La_command_16 : decode m_La_command.2.1 16 = .ok (.ireturn, 1) := by decide +kernel
theorem d_La_command_17 : decode m_La_command.2.1 17 = .ok (.iconst 0, 1) := by decide +kernel
theorem d_La_command_18 : decode m_La_command.2.1 18 = .ok (.ireturn, 1) := by decide +kernel
theorem d_La_edit_0 : decode m_La_edit.2.1 0 = .ok (.aload_n 0, 1) := by decide +kernel
theorem d_La_edit_1 : decode m_La_edit.2.1 1 = .ok (.iload_n 1, 1) := by decide +kernel
theorem d_La_edit_2 : decode m_La_edit.2.1 2 = .ok (.invokevirtual 17, 3) := by decide +kernel
theorem d_La_edit_5 : decode m_La_edit.2.1 5 = .ok (.goto 9, 3) := by decide +kernel
theorem d_La_edit_8 : decode m_La_edit.2.1 8 = .ok (.astore_n 2, 1) := by decide +kernel
theorem d_La_edit_9 : decode m_La_edit.2.1 9 = .ok (.iconst 1, 1) := by decide +kernel
theorem d_La_edit_10 : decode m_La_edit.2.1 10 = .ok (.ireturn, 1) := by decide +kernel
theorem d_La_edit_11 : decode m_La_edit.2.1 11 = .ok (.astore_n 2, 1) := by decide +kernel
theorem d_La_edit_12 : decode m_La_edit.2.1 12 = .ok (.iconst 2, 1) := by decide +kernel
theorem d_La_edit_13 : decode m_La_edit.2.1 13 = .ok (.ireturn, 1) := by decide +kernel
theorem d_La_edit_14 : decode m_La_edit.2.1 14 = .ok (.iconst 0, 1) := by decide +kernel
theorem d_La_edit_15 : decode m_La_edit.2.1 15 = .ok (.ireturn, 1) := by decide +kernel
theorem d_La_drop_0 : decode m_La_drop.2.1 0 = .ok (.aload_n 0, 1) := by decide +kernel
theorem d_La_drop_1 : decode m_La_drop.2.1 1 = .ok (.iload_n 1, 1) := by decide +kernel
theorem d_La_drop_2 : decode m_La_drop.2.1 2 = .ok (.invokevirtual 23, 3) := by decide +kernel
theorem d_La_drop_5 : decode m_La_drop.2.1 5 = .ok (.goto 6, 3) := by decide +kernel
theorem d_La_drop_8 : decode m_La_drop.2.1 8 = .ok (.astore_n 2, 1) := by decide +kernel
theorem d_La_drop_9 : decode m_La_drop.2.1 9 = .ok (.iconst 1, 1) := by decide +kernel
theorem d_La_drop_10 : decode m_La_drop.2.1 10 = .ok (.ireturn, 1) := by decide +kernel
theorem d_La_drop_11 : decode m_La_drop.2.1 11 = .ok (.iconst 0, 1) := by decide +kernel
theorem d_La_drop_12 : decode m_La_drop.2.1 12 = .ok (.ireturn, 1) := by decide +kernel
theorem d_La_run_0 : decode m_La_run.2.1 0 = .ok (.aload_n 2, 1) := by decide +kernel
theorem d_La_run_1 : decode m_La_run.2.1 1 = .ok (.iconst 0, 1) := by decide +kernel
theorem d_La_run_2 : decode m_La_run.2.1 2 = .ok (.aload_n 0, 1) := by decide +kernel
theorem d_La_run_3 : decode m_La_run.2.1 3 = .ok (.iload_n 1, 1) := by decide +kernel
theorem d_La_run_4 : decode m_La_run.2.1 4 = .ok (.invokevirtual 26, 3) := by decide +kernel
theorem d_La_run_7 : decode m_La_run.2.1 7 = .ok (.i2l, 1) := by decide +kernel
theorem d_La_run_8 : decode m_La_run.2.1 8 = .ok (.lastore, 1) := by decide +kernel
theorem d_La_run_9 : decode m_La_run.2.1 9 = .ok (.goto 9, 3) := by decide +kernel
theorem d_La_run_12 : decode m_La_run.2.1 12 = .ok (.astore_n 3, 1) := by decide +kernel
theorem d_La_run_13 : decode m_La_run.2.1 13 = .ok (.iconst 1, 1) := by decide +kernel
theorem d_La_run_14 : decode m_La_run.2.1 14 = .ok (.ireturn, 1) := by decide +kernel
theorem d_La_run_15 : decode m_La_run.2.1 15 = .ok (.astore_n 3, 1) := by decide +kernel
theorem d_La_run_16 : decode m_La_run.2.1 16 = .ok (.iconst 2, 1) := by decide +kernel
theorem d_La_run_17 : decode m_La_run.2.1 17 = .ok (.ireturn, 1) := by decide +kernel
theorem d_La_run_18 : decode m_La_run.2.1 18 = .ok (.iconst 0, 1) := by decide +kernel
theorem d_La_run_19 : decode m_La_run.2.1 19 = .ok (.ireturn, 1) := by decide +kernel
theorem d_La_trace_0 : decode m_La_trace.2.1 0 = .ok (.aload_n 3, 1) := by decide +kernel
theorem d_La_trace_1 : decode m_La_trace.2.1 1 = .ok (.iconst 0, 1) := by decide +kernel
theorem d_La_trace_2 : decode m_La_trace.2.1 2 = .ok (.aload_n 0, 1) := by decide +kernel
theorem d_La_trace_3 : decode m_La_trace.2.1 3 = .ok (.iload_n 1, 1) := by decide +kernel
theorem d_La_trace_4 : decode m_La_trace.2.1 4 = .ok (.iload_n 2, 1) := by decide +kernel
theorem d_La_trace_5 : decode m_La_trace.2.1 5 = .ok (.invokevirtual 30, 3) := by decide +kernel
theorem d_La_trace_8 : decode m_La_trace.2.1 8 = .ok (.i2l, 1) := by decide +kernel
theorem d_La_trace_9 : decode m_La_trace.2.1 9 = .ok (.lastore, 1) := by decide +kernel
theorem d_La_trace_10 : decode m_La_trace.2.1 10 = .ok (.goto 7, 3) := by decide +kernel
theorem d_La_trace_13 : decode m_La_trace.2.1 13 = .ok (.astore 4, 2) := by decide +kernel
theorem d_La_trace_15 : decode m_La_trace.2.1 15 = .ok (.iconst 1, 1) := by decide +kernel
theorem d_La_trace_16 : decode m_La_trace.2.1 16 = .ok (.ireturn, 1) := by decide +kernel
theorem d_La_trace_17 : decode m_La_trace.2.1 17 = .ok (.iconst 0, 1) := by decide +kernel
theorem d_La_trace_18 : decode m_La_trace.2.1 18 = .ok (.ireturn, 1) := by decide +kernel
theorem d_La_number_0 : decode m_La_number.2.1 0 = .ok (.aload_n 3, 1) := by decide +kernel
theorem d_La_number_1 : decode m_La_number.2.1 1 = .ok (.iconst 0, 1) := by decide +kernel
theorem d_La_number_2 : decode m_La_number.2.1 2 = .ok (.aload_n 0, 1) := by decide +kernel
theorem d_La_number_3 : decode m_La_number.2.1 3 = .ok (.iload_n 1, 1) := by decide +kernel
theorem d_La_number_4 : decode m_La_number.2.1 4 = .ok (.iload_n 2, 1) := by decide +kernel
theorem d_La_number_5 : decode m_La_number.2.1 5 = .ok (.invokevirtual 34, 3) := by decide +kernel
theorem d_La_number_8 : decode m_La_number.2.1 8 = .ok (.i2l, 1) := by decide +kernel
theorem d_La_number_9 : decode m_La_number.2.1 9 = .ok (.lastore, 1) := by decide +kernel
theorem d_La_number_10 : decode m_La_number.2.1 10 = .ok (.goto 7, 3) := by decide +kernel
theorem d_La_number_13 : decode m_La_number.2.1 13 = .ok (.astore 4, 2) := by decide +kernel
theorem d_La_number_15 : decode m_La_number.2.1 15 = .ok (.iconst 1, 1) := by decide +kernel
theorem d_La_number_16 : decode m_La_number.2.1 16 = .ok (.ireturn, 1) := by decide +kernel
theorem d_La_number_17 : decode m_La_number.2.1 17 = .ok (.iconst 0, 1) := by decide +kernel
theorem d_La_number_18 : decode m_La_number.2.1 18 = .ok (.ireturn, 1) := by decide +kernel
end
section
/-! The shape: which cell is what, once the law has made its objects. -/
/-- kinds: 1 Deed, 2 Log, 3 Script, 4 Shelf, 5 Store, 6 Text, 7 Trace, 8 TracedBuild, 9 the reference; 100 + t: an array -/
def gK (o : Nat) : Nat :=
  if o = 0 then 0 else if o = 1 then 8 else if o = 2 then 6 else if o = 3 then 102 else if o = 4 then 3 else if o = 5 then 105
  else if o < 26 then (if o % 2 = 0 then 6 else 102)
  else if o = 26 then 4 else if o = 29 then 4 else if o = 27 then 100 else if o = 30 then 100 else if o = 28 then 101 else if o = 31 then 101
  else if o = 32 then 5 else if o = 33 then 106
  else if o < 178 then (if (o - 34) % 6 = 0 then 7 else if (o - 34) % 6 = 1 then 6 else if (o - 34) % 6 = 2 then 102 else if (o - 34) % 6 = 3 then 4 else if (o - 34) % 6 = 4 then 100 else 101)
  else if o = 178 then 2 else if o = 179 then 107 else if o < 190 then 1
  else if o = 190 then 9 else if o = 209 then 103 else if o = 210 then 103 else if o = 216 then 103 else if o < 217 then 100 else if o = 217 then 104 else 0
def gLm : List Nat := [12, 72, 12, 72, 12, 10, 120, 25, 300, 25, 25, 25, 300, 1800, 25, 25, 150, 6, 10, 10, 10, 10, 10, 10, 10, 10]
def gL (o : Nat) : Nat :=
  if o = 3 then 12 else if o = 5 then 10 else if o < 26 then 12 else if o = 27 then 12 else if o = 30 then 12 else if o = 28 then 72 else if o = 31 then 72 else if o = 33 then 24
  else if o < 178 then (if (o - 34) % 6 = 2 then 12 else if (o - 34) % 6 = 4 then 13 else if (o - 34) % 6 = 5 then 78 else 0)
  else if o = 179 then 10 else if o = 217 then 1 else if 191 ≤ o then gLm.getD (o - 191) 0 else 0
theorem gK_big {o : Nat} (h : 218 ≤ o) : gK o = 0 := by
  unfold gK
  rw [if_neg (by omega), if_neg (by omega), if_neg (by omega), if_neg (by omega), if_neg (by omega), if_neg (by omega), if_neg (by omega), if_neg (by omega), if_neg (by omega), if_neg (by omega), if_neg (by omega), if_neg (by omega), if_neg (by omega), if_neg (by omega), if_neg (by omega), if_neg (by omega), if_neg (by omega), if_neg (by omega), if_neg (by omega), if_neg (by omega), if_neg (by omega), if_neg (by omega), if_neg (by omega), if_neg (by omega), if_neg (by omega)]
theorem gK_lt {o : Nat} (h : gK o ≠ 0) : o < 218 := Nat.lt_of_not_le fun q => h (gK_big q)
/-- the arrays of the reference, by its fields -/
def gMo (j : Nat) : Nat := match j with
  | 1 => 191
  | 2 => 192
  | 3 => 193
  | 4 => 194
  | 6 => 195
  | 8 => 196
  | 9 => 197
  | 11 => 198
  | 12 => 199
  | 13 => 200
  | 14 => 201
  | 15 => 202
  | 16 => 203
  | 17 => 204
  | 18 => 205
  | 19 => 206
  | 20 => 207
  | 25 => 208
  | 27 => 209
  | 28 => 210
  | 29 => 211
  | 30 => 212
  | 31 => 213
  | 32 => 214
  | 33 => 215
  | 34 => 216
  | _ => 0
/-- the references that never change -/
def FR (R : Nat → Nat → Nat) : Prop := (R 1 0 = 2 ∧ R 1 1 = 4 ∧ R 1 2 = 26 ∧ R 1 3 = 29 ∧ R 1 4 = 32 ∧ R 1 5 = 178 ∧ R 4 0 = 5 ∧ R 32 0 = 33 ∧ R 178 0 = 179) ∧ (∀ t, gK t = 6 → R t 0 = t + 1) ∧ (∀ t, gK t = 4 → R t 0 = t + 1 ∧ R t 1 = t + 2) ∧ (∀ t, gK t = 7 → R t 0 = t + 1 ∧ R t 1 = t + 3) ∧ (∀ k, k < 10 → R 179 k = 180 + k) ∧ ∀ j, gMo j ≠ 0 → R 190 j = gMo j
def Sh (M : tb_M) : Prop := tb_K M = gK ∧ tb_Ln M = gL ∧ FR (tb_R M)
theorem gK_tx : ∀ t, t < 218 → gK t = 6 → gK (t + 1) = 102 ∧ gL (t + 1) = 12 := by decide +kernel
theorem gK_sh : ∀ t, t < 218 → gK t = 4 → gK (t + 1) = 100 ∧ gK (t + 2) = 101 ∧ 12 ≤ gL (t + 1) ∧ gL (t + 1) ≤ 13 ∧ gL (t + 2) = 6 * gL (t + 1) := by decide +kernel
theorem gK_tr : ∀ t, t < 218 → gK t = 7 → gK (t + 1) = 6 ∧ gK (t + 3) = 4 ∧ gL (t + 4) = 13 ∧ gL (t + 5) = 78 := by decide +kernel
theorem Sh.k {M : tb_M} (h : Sh M) {o c : Nat} (ho : gK o = c) : tb_K M o = c := (congrFun h.1 o).trans ho
theorem Sh.l {M : tb_M} (h : Sh M) {o c : Nat} (ho : gL o = c) : tb_Ln M o = c := (congrFun h.2.1 o).trans ho
theorem Sh.tx {M : tb_M} (h : Sh M) {t : Nat} (ht : gK t = 6) : tb_K M t = 6 ∧ tb_R M t 0 = t + 1 ∧ tb_K M (t + 1) = 102 ∧ tb_Ln M (t + 1) = 12 := by
  have h1 := gK_tx t (gK_lt (by omega)) ht
  exact ⟨h.k ht, h.2.2.2.1 t ht, h.k h1.1, h.l h1.2⟩
theorem tb_topI {E : tb_E} {k : tb_MD} {d rc rs pc : Nat} {L : List tb_L} {S : List tb_V} {M : tb_M} {Q : tb_O → tb_M → Prop} {x y : Int32} (h : x = y) (kk : tb_Wp E k d rc rs pc L (.inl y :: S) M Q) : tb_Wp E k d rc rs pc L (.inl x :: S) M Q := h ▸ kk
theorem tb_topR {E : tb_E} {k : tb_MD} {d rc rs pc : Nat} {L : List tb_L} {S : List tb_V} {M : tb_M} {Q : tb_O → tb_M → Prop} {x y : Nat} (h : x = y) (kk : tb_Wp E k d rc rs pc L (.inr (.inl y) :: S) M Q) : tb_Wp E k d rc rs pc L (.inr (.inl x) :: S) M Q := h ▸ kk
/-- a contract that answers v and leaves M' -/
abbrev tb_Ret (E : tb_E) (k : tb_MD) (d : Nat) (A : List tb_V) (M : tb_M) (v : Option tb_V) (M' : tb_M) : Prop := tb_Ok E k d 0 0 A M (fun o m => o = .inl v ∧ m = M')
/-- a contract that answers v with P v M' -/
abbrev tb_Rel (E : tb_E) (k : tb_MD) (d : Nat) (A : List tb_V) (M : tb_M) (P : Option tb_V → tb_M → Prop) : Prop := tb_Ok E k d 0 0 A M (fun o m => ∃ v, o = .inl v ∧ P v m)
section Rets
variable {E : tb_E} {k : tb_MD} {d rc rs pc pc' : Nat} {L : List tb_L} {S : List tb_V} {M M' : tb_M} {Q : tb_O → tb_M → Prop}
theorem tb_callVr {index ci n o : Nat} {k' : tb_MD} {A St : List tb_V} {v : tb_V} (hs : tb_SV k.1.cls index ci k' n) (hd : decode k.2.1 pc = .ok (.invokevirtual index, 3)) (hp : pc + 3 = pc') (hSt : A.reverse ++ .inr (.inl o) :: S = St) (hn : A.length = n) (hS4 : S.length ≤ 4) (hKo : tb_K M o = ci + 1) (hok : tb_Ret E k' d (.inr (.inl o) :: A) M (some v) M') (kk : tb_Wp E k (d + 1) rc rs pc' L (v :: S) M' Q) : tb_Wp E k (d + 1) rc rs pc L St M Q :=
  tb_callV hs hd hp hSt hn hS4 hKo (Nat.le_refl _) (Nat.zero_le _) (Nat.zero_le _) hok (fun v' m h => by obtain ⟨h1, rfl⟩ := h; cases h1; exact kk) (fun x m h => by cases h.1)
theorem tb_callVv {index ci n o : Nat} {k' : tb_MD} {A St : List tb_V} (hs : tb_SV k.1.cls index ci k' n) (hd : decode k.2.1 pc = .ok (.invokevirtual index, 3)) (hp : pc + 3 = pc') (hSt : A.reverse ++ .inr (.inl o) :: S = St) (hn : A.length = n) (hS4 : S.length ≤ 4) (hKo : tb_K M o = ci + 1) (hok : tb_Ret E k' d (.inr (.inl o) :: A) M none M') (kk : tb_Wp E k (d + 1) rc rs pc' L S M' Q) : tb_Wp E k (d + 1) rc rs pc L St M Q :=
  tb_callV hs hd hp hSt hn hS4 hKo (Nat.le_refl _) (Nat.zero_le _) (Nat.zero_le _) hok (fun v' m h => by obtain ⟨h1, rfl⟩ := h; cases h1; exact kk) (fun x m h => by cases h.1)
theorem tb_callVq {index ci n o : Nat} {k' : tb_MD} {A St : List tb_V} {P : Option tb_V → tb_M → Prop} (hs : tb_SV k.1.cls index ci k' n) (hd : decode k.2.1 pc = .ok (.invokevirtual index, 3)) (hp : pc + 3 = pc') (hSt : A.reverse ++ .inr (.inl o) :: S = St) (hn : A.length = n) (hS4 : S.length ≤ 4) (hKo : tb_K M o = ci + 1) (hok : tb_Rel E k' d (.inr (.inl o) :: A) M P) (kk : ∀ v m, P v m → tb_Wp E k (d + 1) rc rs pc' L (v.toList ++ S) m Q) : tb_Wp E k (d + 1) rc rs pc L St M Q :=
  tb_callV hs hd hp hSt hn hS4 hKo (Nat.le_refl _) (Nat.zero_le _) (Nat.zero_le _) hok (fun v' m h => by obtain ⟨v, h1, h2⟩ := h; cases h1; exact kk v' m h2) (fun x m h => by obtain ⟨v, h1, -⟩ := h; cases h1)
theorem tb_callSr {index n : Nat} {k' : tb_MD} {A St : List tb_V} {v : tb_V} (hs : tb_SS k.1.cls index k' n) (hd : decode k.2.1 pc = .ok (.invokestatic index, 3)) (hp : pc + 3 = pc') (hSt : A.reverse ++ S = St) (hn : A.length = n) (hS4 : S.length ≤ 4) (hok : tb_Ret E k' d (A) M (some v) M') (kk : tb_Wp E k (d + 1) rc rs pc' L (v :: S) M' Q) : tb_Wp E k (d + 1) rc rs pc L St M Q :=
  tb_callS hs hd hp hSt hn hS4 (Nat.le_refl _) (Nat.zero_le _) (Nat.zero_le _) hok (fun v' m h => by obtain ⟨h1, rfl⟩ := h; cases h1; exact kk) (fun x m h => by cases h.1)
theorem tb_callSv {index n : Nat} {k' : tb_MD} {A St : List tb_V} (hs : tb_SS k.1.cls index k' n) (hd : decode k.2.1 pc = .ok (.invokestatic index, 3)) (hp : pc + 3 = pc') (hSt : A.reverse ++ S = St) (hn : A.length = n) (hS4 : S.length ≤ 4) (hok : tb_Ret E k' d (A) M none M') (kk : tb_Wp E k (d + 1) rc rs pc' L S M' Q) : tb_Wp E k (d + 1) rc rs pc L St M Q :=
  tb_callS hs hd hp hSt hn hS4 (Nat.le_refl _) (Nat.zero_le _) (Nat.zero_le _) hok (fun v' m h => by obtain ⟨h1, rfl⟩ := h; cases h1; exact kk) (fun x m h => by cases h.1)
theorem tb_callSq {index n : Nat} {k' : tb_MD} {A St : List tb_V} {P : Option tb_V → tb_M → Prop} (hs : tb_SS k.1.cls index k' n) (hd : decode k.2.1 pc = .ok (.invokestatic index, 3)) (hp : pc + 3 = pc') (hSt : A.reverse ++ S = St) (hn : A.length = n) (hS4 : S.length ≤ 4) (hok : tb_Rel E k' d (A) M P) (kk : ∀ v m, P v m → tb_Wp E k (d + 1) rc rs pc' L (v.toList ++ S) m Q) : tb_Wp E k (d + 1) rc rs pc L St M Q :=
  tb_callS hs hd hp hSt hn hS4 (Nat.le_refl _) (Nat.zero_le _) (Nat.zero_le _) hok (fun v' m h => by obtain ⟨v, h1, h2⟩ := h; cases h1; exact kk v' m h2) (fun x m h => by obtain ⟨v, h1, -⟩ := h; cases h1)
theorem tb_callSNr {index n : Nat} {host : String} {k' : tb_MD} {A St : List tb_V} {v : tb_V} (hs : tb_SSN k.1.cls index k' n host) (hd : decode k.2.1 pc = .ok (.invokestatic index, 3)) (hp : pc + 3 = pc') (hSt : A.reverse ++ S = St) (hn : A.length = n) (hS4 : S.length ≤ 4) (hok : tb_Ret E k' d (A) M (some v) M') (kk : tb_Wp E k (d + 1) rc rs pc' L (v :: S) M' Q) : tb_Wp E k (d + 1) rc rs pc L St M Q :=
  tb_callSN hs hd hp hSt hn hS4 (Nat.le_refl _) (Nat.zero_le _) (Nat.zero_le _) hok (fun v' m h => by obtain ⟨h1, rfl⟩ := h; cases h1; exact kk) (fun x m h => by cases h.1)
theorem tb_callSNv {index n : Nat} {host : String} {k' : tb_MD} {A St : List tb_V} (hs : tb_SSN k.1.cls index k' n host) (hd : decode k.2.1 pc = .ok (.invokestatic index, 3)) (hp : pc + 3 = pc') (hSt : A.reverse ++ S = St) (hn : A.length = n) (hS4 : S.length ≤ 4) (hok : tb_Ret E k' d (A) M none M') (kk : tb_Wp E k (d + 1) rc rs pc' L S M' Q) : tb_Wp E k (d + 1) rc rs pc L St M Q :=
  tb_callSN hs hd hp hSt hn hS4 (Nat.le_refl _) (Nat.zero_le _) (Nat.zero_le _) hok (fun v' m h => by obtain ⟨h1, rfl⟩ := h; cases h1; exact kk) (fun x m h => by cases h.1)
theorem tb_callSNq {index n : Nat} {host : String} {k' : tb_MD} {A St : List tb_V} {P : Option tb_V → tb_M → Prop} (hs : tb_SSN k.1.cls index k' n host) (hd : decode k.2.1 pc = .ok (.invokestatic index, 3)) (hp : pc + 3 = pc') (hSt : A.reverse ++ S = St) (hn : A.length = n) (hS4 : S.length ≤ 4) (hok : tb_Rel E k' d (A) M P) (kk : ∀ v m, P v m → tb_Wp E k (d + 1) rc rs pc' L (v.toList ++ S) m Q) : tb_Wp E k (d + 1) rc rs pc L St M Q :=
  tb_callSN hs hd hp hSt hn hS4 (Nat.le_refl _) (Nat.zero_le _) (Nat.zero_le _) hok (fun v' m h => by obtain ⟨v, h1, h2⟩ := h; cases h1; exact kk v' m h2) (fun x m h => by obtain ⟨v, h1, -⟩ := h; cases h1)
end Rets
end
section
/-! Text. -/
noncomputable def bI (p : Prop) : Int32 := @ite _ p (Classical.propDecidable p) 1 0
theorem bI_t {p : Prop} (h : p) : bI p = 1 := by unfold bI; rw [if_pos h]
theorem bI_f {p : Prop} (h : ¬ p) : bI p = 0 := by unfold bI; rw [if_neg h]
theorem bI_iff {p q : Prop} (h : p ↔ q) : bI p = bI q := by rw [propext h]
theorem bI_0 {p : Prop} : bI p = 0 ↔ ¬ p := by
  by_cases h : p
  · rw [bI_t h]; exact ⟨fun q => absurd q (by decide), fun q => absurd h q⟩
  · rw [bI_f h]; exact ⟨fun _ => h, fun _ => rfl⟩
theorem bI_01 (p : Prop) : bI p = 0 ∨ bI p = 1 := by
  by_cases h : p
  · exact Or.inr (bI_t h)
  · exact Or.inl (bI_f h)
theorem bI_nar (p : Prop) : narrow .boolean (.int (bI p)) = .int (bI p) := by
  rcases bI_01 p with h | h <;> rw [h] <;> rfl
/-- the text at t has n characters -/
def TxOk (M : tb_M) (t n : Nat) : Prop := gK t = 6 ∧ tb_I M t 1 = nI n ∧ n ≤ 12 ∧ ∀ i, i < 12 → narrow .char (.int (tb_I M (t + 1) i)) = .int (tb_I M (t + 1) i)
/-- its i-th character, or 0 -/
def ta (M : tb_M) (t n j : Nat) : Int32 := if j < n then tb_I M (t + 1) j else 0
def fOf (x : Int32) : Int32 := if 97 ≤ x ∧ x ≤ 108 then x - 97 else -1
def dOf (x : Int32) : Int32 := if 49 ≤ x ∧ x ≤ 57 then x - 48 else -1
theorem nI_lit (n : Nat) : nI n = Int32.ofNat n := rfl
section Text
variable {E : tb_E} {M : tb_M} {t n : Nat}
theorem ok_Tx_length (hG : tb_G E) (hS : Sh M) (hT : TxOk M t n) (d : Nat) : tb_Ret E m_Tx_length d [.inr (.inl t)] M (some (.inl (nI n))) M := by
  obtain ⟨k1, r0, k2, l2⟩ := hS.tx hT.1
  have hI := hT.2.1
  have hn := hT.2.2.1
  refine tb_okOf hG (by decide) rfl (Nat.le_of_ble_eq_true rfl) rfl ?_
  refine tb_aload_0 d_Tx_length_0 rfl ?_
  refine g_Tx_15 d_Tx_length_1 rfl rfl (by first | exact k1 | exact k2) ?_
  refine tb_topI hI ?_
  refine tb_ireturn d_Tx_length_4 rfl (by first | rfl | assumption) ?_
  exact ⟨rfl, rfl⟩
theorem ok_Tx_at (hG : tb_G E) (hS : Sh M) (hT : TxOk M t n) {j : Nat} (hj : j < 2 ^ 31) (d : Nat) : tb_Ret E m_Tx_at d [.inr (.inl t), .inl (nI j)] M (some (.inl (ta M t n j))) M := by
  obtain ⟨k1, r0, k2, l2⟩ := hS.tx hT.1
  have hI := hT.2.1
  have hn := hT.2.2.1
  refine tb_okOf hG (by decide) rfl (Nat.le_of_ble_eq_true rfl) rfl ?_
  refine tb_iload_1 d_Tx_at_0 rfl ?_
  refine tb_if_lt 21 d_Tx_at_1 (by decide) rfl (fun h1 => ?_) (fun h1 => ?_)
  · exact absurd h1 (nI_pos hj)
  · refine tb_iload_1 d_Tx_at_4 rfl ?_
    refine tb_aload_0 d_Tx_at_5 rfl ?_
    refine g_Tx_15 d_Tx_at_6 rfl rfl (by first | exact k1 | exact k2) ?_
    refine tb_topI hI ?_
    refine tb_icmp_ge 21 d_Tx_at_9 (by decide) rfl (fun h9 => ?_) (fun h9 => ?_)
    · have hlt : ¬ j < n := by have := (nI_leI (by omega) hj).mp h9; omega
      refine tb_iconst (0) (by decide) d_Tx_at_21 rfl ?_
      refine tb_ireturn d_Tx_at_22 rfl (by first | rfl | exact hT.2.2.2 j (by omega)) ?_
      refine ⟨?_, rfl⟩
      simp [ta, hlt]
    · have hlt : j < n := by
        have : ¬ n ≤ j := fun q => h9 ((nI_leI (a := n) (b := j) (by omega) hj).mpr q)
        omega
      refine tb_aload_0 d_Tx_at_12 rfl ?_
      refine g_Tx_9 d_Tx_at_13 rfl rfl (by first | exact k1 | exact k2) ?_
      refine tb_topR r0 ?_
      refine tb_iload_1 d_Tx_at_16 rfl ?_
      refine tb_caload d_Tx_at_17 rfl (by first | exact k1 | exact k2) (by rw [l2]; exact vp_in_nI (by omega) (by omega)) ?_
      refine tb_topI (y := tb_I M (t + 1) j) (by rw [nI_clamp hj]) ?_
      refine tb_goto 22 d_Tx_at_18 (by decide) ?_
      refine tb_ireturn d_Tx_at_22 rfl (by first | rfl | exact hT.2.2.2 j (by omega)) ?_
      refine ⟨?_, rfl⟩
      simp [ta, hlt]
theorem ok_Tx_clear (hG : tb_G E) (hS : Sh M) (hT : TxOk M t n) (d : Nat) : tb_Ret E m_Tx_clear d [.inr (.inl t)] M none (tb_sI M t 1 0) := by
  obtain ⟨k1, r0, k2, l2⟩ := hS.tx hT.1
  have hI := hT.2.1
  have hn := hT.2.2.1
  refine tb_okOf hG (by decide) rfl (Nat.le_of_ble_eq_true rfl) rfl ?_
  refine tb_aload_0 d_Tx_clear_0 rfl ?_
  refine tb_iconst (0) (by decide) d_Tx_clear_1 rfl ?_
  refine p_Tx_15 d_Tx_clear_2 rfl rfl (by first | exact k1 | exact k2) ?_
  refine tb_vreturn d_Tx_clear_5 rfl ?_
  exact ⟨rfl, rfl⟩
theorem ok_Tx_append0 (hG : tb_G E) (hS : Sh M) (hT : TxOk M t n) {c : Int32} (hf : n = 12) (d : Nat) : tb_Ret E m_Tx_append d [.inr (.inl t), .inl c] M (some (.inl 0)) M := by
  obtain ⟨k1, r0, k2, l2⟩ := hS.tx hT.1
  have hI := hT.2.1
  have hn := hT.2.2.1
  refine tb_okOf hG (by decide) rfl (Nat.le_of_ble_eq_true rfl) rfl ?_
  refine tb_aload_0 d_Tx_append_0 rfl ?_
  refine g_Tx_15 d_Tx_append_1 rfl rfl (by first | exact k1 | exact k2) ?_
  refine tb_topI hI ?_
  refine tb_bipush (12) (by decide) d_Tx_append_4 rfl ?_
  refine tb_icmp_lt 11 d_Tx_append_6 (by decide) rfl (fun h6 => ?_) (fun h6 => ?_)
  · exact absurd h6 (by rw [hf]; decide)
  · refine tb_iconst (0) (by decide) d_Tx_append_9 rfl ?_
    refine tb_ireturn d_Tx_append_10 rfl (by first | rfl | assumption) ?_
    exact ⟨rfl, rfl⟩
theorem ok_Tx_append1 (hG : tb_G E) (hS : Sh M) (hT : TxOk M t n) {c : Int32} (hf : n < 12) (d : Nat) : tb_Ret E m_Tx_append d [.inr (.inl t), .inl c] M (some (.inl 1)) (tb_sI (tb_sI M (t + 1) n (vp_nar .char c)) t 1 (nI (n + 1))) := by
  obtain ⟨k1, r0, k2, l2⟩ := hS.tx hT.1
  have hI := hT.2.1
  have hn := hT.2.2.1
  refine tb_okOf hG (by decide) rfl (Nat.le_of_ble_eq_true rfl) rfl ?_
  refine tb_aload_0 d_Tx_append_0 rfl ?_
  refine g_Tx_15 d_Tx_append_1 rfl rfl (by first | exact k1 | exact k2) ?_
  refine tb_topI hI ?_
  refine tb_bipush (12) (by decide) d_Tx_append_4 rfl ?_
  refine tb_icmp_lt 11 d_Tx_append_6 (by decide) rfl (fun h6 => ?_) (fun h6 => ?_)
  · refine tb_aload_0 d_Tx_append_11 rfl ?_
    refine g_Tx_9 d_Tx_append_12 rfl rfl (by first | exact k1 | exact k2) ?_
    refine tb_topR r0 ?_
    refine tb_aload_0 d_Tx_append_15 rfl ?_
    refine g_Tx_15 d_Tx_append_16 rfl rfl (by first | exact k1 | exact k2) ?_
    refine tb_topI hI ?_
    refine tb_iload_1 d_Tx_append_19 rfl ?_
    refine tb_castore d_Tx_append_20 rfl (by first | exact k1 | exact k2) (by rw [l2]; exact vp_in_nI (by omega) (by omega)) ?_
    rw [nI_clamp (show n < 2 ^ 31 by omega)]
    refine tb_aload_0 d_Tx_append_21 rfl ?_
    refine tb_dup d_Tx_append_22 rfl ?_
    refine g_Tx_15 d_Tx_append_23 rfl rfl (by first | exact k1 | exact k2) ?_
    refine tb_topI (y := nI n) (by show va_up (tb_I M) (t + 1) _ t 1 = _; unfold va_up; rw [if_neg (by omega)]; exact hI) ?_
    refine tb_iconst (1) (by decide) d_Tx_append_26 rfl ?_
    refine tb_iadd d_Tx_append_27 rfl ?_
    refine tb_topI (y := nI (n + 1)) (nI_1 n) ?_
    refine p_Tx_15 d_Tx_append_28 rfl rfl (by first | exact k1 | exact k2) ?_
    refine tb_iconst (1) (by decide) d_Tx_append_31 rfl ?_
    refine tb_ireturn d_Tx_append_32 rfl (by first | rfl | assumption) ?_
    exact ⟨rfl, rfl⟩
  · exact absurd (nI_lt hf (by decide)) h6
theorem ok_Tx_fileAt (hG : tb_G E) (hS : Sh M) (hT : TxOk M t n) {j : Nat} (hj : j < 2 ^ 31) (d : Nat) : tb_Ret E m_Tx_fileAt (d + 1) [.inr (.inl t), .inl (nI j)] M (some (.inl (fOf (ta M t n j)))) M := by
  obtain ⟨k1, r0, k2, l2⟩ := hS.tx hT.1
  have hI := hT.2.1
  have hn := hT.2.2.1
  refine tb_okOf hG (by decide) rfl (Nat.le_of_ble_eq_true rfl) rfl ?_
  refine tb_aload_0 d_Tx_fileAt_0 rfl ?_
  refine tb_iload_1 d_Tx_fileAt_1 rfl ?_
  refine tb_callVr c_Tx_19 d_Tx_fileAt_2 rfl rfl rfl (by decide) (by first | exact k1 | exact k2) (ok_Tx_at hG hS hT hj d) ?_
  refine tb_istore_2 d_Tx_fileAt_5 rfl (by decide) ?_
  refine tb_iload_2 d_Tx_fileAt_6 rfl ?_
  refine tb_bipush (97) (by decide) d_Tx_fileAt_7 rfl ?_
  refine tb_icmp_lt 25 d_Tx_fileAt_9 (by decide) rfl (fun h9 => ?_) (fun h9 => ?_)
  · have hc : ¬ (97 ≤ ta M t n j ∧ ta M t n j ≤ 108) := fun q => Int32.not_lt.mpr q.1 h9
    refine tb_iconst (-1) (by decide) d_Tx_fileAt_25 rfl ?_
    refine tb_ireturn d_Tx_fileAt_26 rfl (by first | rfl | assumption) ?_
    refine ⟨?_, rfl⟩
    simp [fOf, hc]
  · refine tb_iload_2 d_Tx_fileAt_12 rfl ?_
    refine tb_bipush (108) (by decide) d_Tx_fileAt_13 rfl ?_
    refine tb_icmp_gt 25 d_Tx_fileAt_15 (by decide) rfl (fun h15 => ?_) (fun h15 => ?_)
    · have hc : ¬ (97 ≤ ta M t n j ∧ ta M t n j ≤ 108) := fun q => Int32.not_lt.mpr q.2 h15
      refine tb_iconst (-1) (by decide) d_Tx_fileAt_25 rfl ?_
      refine tb_ireturn d_Tx_fileAt_26 rfl (by first | rfl | assumption) ?_
      refine ⟨?_, rfl⟩
      simp [fOf, hc]
    · have hc : 97 ≤ ta M t n j ∧ ta M t n j ≤ 108 := ⟨Int32.not_lt.mp h9, Int32.not_lt.mp h15⟩
      refine tb_iload_2 d_Tx_fileAt_18 rfl ?_
      refine tb_bipush (97) (by decide) d_Tx_fileAt_19 rfl ?_
      refine tb_isub d_Tx_fileAt_21 rfl ?_
      refine tb_goto 26 d_Tx_fileAt_22 (by decide) ?_
      refine tb_ireturn d_Tx_fileAt_26 rfl (by first | rfl | assumption) ?_
      refine ⟨?_, rfl⟩
      simp [fOf, hc]
theorem ok_Tx_digitAt (hG : tb_G E) (hS : Sh M) (hT : TxOk M t n) {j : Nat} (hj : j < 2 ^ 31) (d : Nat) : tb_Ret E m_Tx_digitAt (d + 1) [.inr (.inl t), .inl (nI j)] M (some (.inl (dOf (ta M t n j)))) M := by
  obtain ⟨k1, r0, k2, l2⟩ := hS.tx hT.1
  have hI := hT.2.1
  have hn := hT.2.2.1
  refine tb_okOf hG (by decide) rfl (Nat.le_of_ble_eq_true rfl) rfl ?_
  refine tb_aload_0 d_Tx_digitAt_0 rfl ?_
  refine tb_iload_1 d_Tx_digitAt_1 rfl ?_
  refine tb_callVr c_Tx_19 d_Tx_digitAt_2 rfl rfl rfl (by decide) (by first | exact k1 | exact k2) (ok_Tx_at hG hS hT hj d) ?_
  refine tb_istore_2 d_Tx_digitAt_5 rfl (by decide) ?_
  refine tb_iload_2 d_Tx_digitAt_6 rfl ?_
  refine tb_bipush (49) (by decide) d_Tx_digitAt_7 rfl ?_
  refine tb_icmp_lt 25 d_Tx_digitAt_9 (by decide) rfl (fun h9 => ?_) (fun h9 => ?_)
  · have hc : ¬ (49 ≤ ta M t n j ∧ ta M t n j ≤ 57) := fun q => Int32.not_lt.mpr q.1 h9
    refine tb_iconst (-1) (by decide) d_Tx_digitAt_25 rfl ?_
    refine tb_ireturn d_Tx_digitAt_26 rfl (by first | rfl | assumption) ?_
    refine ⟨?_, rfl⟩
    simp [dOf, hc]
  · refine tb_iload_2 d_Tx_digitAt_12 rfl ?_
    refine tb_bipush (57) (by decide) d_Tx_digitAt_13 rfl ?_
    refine tb_icmp_gt 25 d_Tx_digitAt_15 (by decide) rfl (fun h15 => ?_) (fun h15 => ?_)
    · have hc : ¬ (49 ≤ ta M t n j ∧ ta M t n j ≤ 57) := fun q => Int32.not_lt.mpr q.2 h15
      refine tb_iconst (-1) (by decide) d_Tx_digitAt_25 rfl ?_
      refine tb_ireturn d_Tx_digitAt_26 rfl (by first | rfl | assumption) ?_
      refine ⟨?_, rfl⟩
      simp [dOf, hc]
    · have hc : 49 ≤ ta M t n j ∧ ta M t n j ≤ 57 := ⟨Int32.not_lt.mp h9, Int32.not_lt.mp h15⟩
      refine tb_iload_2 d_Tx_digitAt_18 rfl ?_
      refine tb_bipush (48) (by decide) d_Tx_digitAt_19 rfl ?_
      refine tb_isub d_Tx_digitAt_21 rfl ?_
      refine tb_goto 26 d_Tx_digitAt_22 (by decide) ?_
      refine tb_ireturn d_Tx_digitAt_26 rfl (by first | rfl | assumption) ?_
      refine ⟨?_, rfl⟩
      simp [dOf, hc]
theorem gK_ne {a b : Nat} (h : gK a ≠ gK b) : a ≠ b := fun q => h (by rw [q])
theorem nar_ch {x : Int32} (h : narrow .char (.int x) = .int x) : vp_nar .char x = x := by unfold vp_nar; rw [h]
/-- t becomes o, as far as the j-th character -/
def bec (M : tb_M) (t o n j : Nat) : tb_M := (tb_n M, tb_u M, tb_K M, tb_Ln M, fun q i => if q = t then (if i = 1 then nI n else tb_I M t i) else if q = t + 1 then (if i < j then tb_I M (o + 1) i else tb_I M (t + 1) i) else tb_I M q i, tb_R M, tb_J M)
theorem bec_0 (M : tb_M) (t o n : Nat) : tb_sI M t 1 (nI n) = bec M t o n 0 := by
  unfold tb_sI bec
  simp only [Prod.mk.injEq, true_and, and_true]
  funext q i
  unfold va_up
  by_cases h : q = t
  · subst h; simp
  · by_cases h2 : q = t + 1
    · subst h2; simp
    · simp [h, h2]
theorem bec_1 (M : tb_M) (t o n j : Nat) : tb_sI (bec M t o n j) (t + 1) j (tb_I M (o + 1) j) = bec M t o n (j + 1) := by
  show (tb_n M, tb_u M, tb_K M, tb_Ln M, va_up (tb_I (bec M t o n j)) (t + 1) (va_up (tb_I (bec M t o n j) (t + 1)) j (tb_I M (o + 1) j)), tb_R M, tb_J M) = bec M t o n (j + 1)
  unfold bec
  simp only [Prod.mk.injEq, true_and, and_true]
  funext q i
  unfold va_up tb_I
  by_cases h : q = t + 1
  · subst h
    by_cases h3 : i = j
    · subst h3; simp
    · by_cases h4 : i < j
      · have : i < j + 1 := by omega
        simp [h3, h4, this]
      · have : ¬ i < j + 1 := by omega
        simp [h3, h4, this]
  · by_cases h2 : q = t
    · subst h2; simp
    · simp [h, h2]
theorem tb_memeq {E : tb_E} {k : tb_MD} {d rc rs pc : Nat} {L : List tb_L} {S : List tb_V} {M M' : tb_M} {Q : tb_O → tb_M → Prop} (h : M = M') (kk : tb_Wp E k d rc rs pc L S M' Q) : tb_Wp E k d rc rs pc L S M Q := h ▸ kk
theorem lp_Tx_become (hS : Sh M) (hT : gK t = 6) {o : Nat} (hO : TxOk M o n) (hne : t ≠ o) {d rc rs : Nat} {Q : tb_O → tb_M → Prop} (hQ : Q (.inl none) (bec M t o n n)) : ∀ (m j : Nat), n - j = m → j ≤ n → tb_Wp E m_Tx_become d rc rs 10 [some (.inr t), some (.inr o), some (.inl (nI j))] [] (bec M t o n j) Q := by
  obtain ⟨k1, r0, k2, l2⟩ := hS.tx hT
  obtain ⟨k3, r1, k4, l4⟩ := hS.tx hO.1
  have hn := hO.2.2.1
  have n1 : o + 1 ≠ t := gK_ne (by rw [(gK_tx o (gK_lt (by rw [hO.1]; decide)) hO.1).1, hT]; decide)
  intro m
  induction m using Nat.strongRecOn with
  | ind m ih =>
    intro j hm hj
    refine tb_iload_2 d_Tx_become_10 rfl ?_
    refine tb_aload_0 d_Tx_become_11 rfl ?_
    refine g_Tx_15 d_Tx_become_12 rfl rfl (by first | exact k1 | exact k2 | exact k3 | exact k4) ?_
    refine tb_topI (y := nI n) (by simp [tb_I, bec]) ?_
    refine tb_icmp_ge 36 d_Tx_become_15 (by decide) rfl (fun h15 => ?_) (fun h15 => ?_)
    · have hje : j = n := by have := (nI_leI (a := n) (b := j) (by omega) (by omega)).mp h15; omega
      subst hje
      refine tb_vreturn d_Tx_become_36 rfl ?_
      exact hQ
    · have hlt : j < n := by
        have : ¬ n ≤ j := fun q => h15 ((nI_leI (a := n) (b := j) (by omega) (by omega)).mpr q)
        omega
      refine tb_aload_0 d_Tx_become_18 rfl ?_
      refine g_Tx_9 d_Tx_become_19 rfl rfl (by first | exact k1 | exact k2 | exact k3 | exact k4) ?_
      refine tb_topR r0 ?_
      refine tb_iload_2 d_Tx_become_22 rfl ?_
      refine tb_aload_1 d_Tx_become_23 rfl ?_
      refine g_Tx_9 d_Tx_become_24 rfl rfl (by first | exact k1 | exact k2 | exact k3 | exact k4) ?_
      refine tb_topR r1 ?_
      refine tb_iload_2 d_Tx_become_27 rfl ?_
      refine tb_caload d_Tx_become_28 rfl (by first | exact k1 | exact k2 | exact k3 | exact k4) (by show vp_in _ (tb_Ln M (o + 1)); rw [l4]; exact vp_in_nI (by omega) (by omega)) ?_
      refine tb_topI (y := tb_I M (o + 1) j) (by rw [nI_clamp (show j < 2 ^ 31 by omega)]; have hne2 : ¬ o = t := fun q => hne q.symm; simp [tb_I, bec, n1, hne2]) ?_
      refine tb_castore d_Tx_become_29 rfl (by first | exact k1 | exact k2 | exact k3 | exact k4) (by show vp_in _ (tb_Ln M (t + 1)); rw [l2]; exact vp_in_nI (by omega) (by omega)) ?_
      rw [nI_clamp (show j < 2 ^ 31 by omega), nar_ch (hO.2.2.2 j (by omega)), bec_1]
      refine tb_iinc_2 (1) d_Tx_become_30 rfl (by decide) (by decide) ?_
      refine tb_goto 10 d_Tx_become_33 (by decide) ?_
      rw [nI_1]
      exact ih (n - (j + 1)) (by omega) (j + 1) rfl (by omega)
theorem ok_Tx_become (hG : tb_G E) (hS : Sh M) (hT : gK t = 6) {o : Nat} (hO : TxOk M o n) (hne : t ≠ o) (d : Nat) : tb_Ret E m_Tx_become d [.inr (.inl t), .inr (.inl o)] M none (bec M t o n n) := by
  obtain ⟨k1, r0, k2, l2⟩ := hS.tx hT
  obtain ⟨k3, r1, k4, l4⟩ := hS.tx hO.1
  refine tb_okOf hG (by decide) rfl (Nat.le_of_ble_eq_true rfl) rfl ?_
  refine tb_aload_0 d_Tx_become_0 rfl ?_
  refine tb_aload_1 d_Tx_become_1 rfl ?_
  refine g_Tx_15 d_Tx_become_2 rfl rfl (by first | exact k1 | exact k3) ?_
  refine tb_topI hO.2.1 ?_
  refine p_Tx_15 d_Tx_become_5 rfl rfl (by first | exact k1 | exact k3) ?_
  rw [bec_0 M t o n]
  refine tb_iconst (0) (by decide) d_Tx_become_8 rfl ?_
  refine tb_istore_2 d_Tx_become_9 rfl (by decide) ?_
  exact lp_Tx_become hS hT hO hne ⟨rfl, rfl⟩ n 0 rfl (Nat.zero_le _)
def sameT (M : tb_M) (t n o n' : Nat) : Prop := n = n' ∧ ∀ i, i < n → tb_I M (t + 1) i = tb_I M (o + 1) i
theorem lp_Tx_isSame (hS : Sh M) (hT : TxOk M t n) {o : Nat} (hO : TxOk M o n) {d rc rs : Nat} {Q : tb_O → tb_M → Prop} (hQ : Q (.inl (some (.inl (bI (sameT M t n o n))))) M) : ∀ (m j : Nat), n - j = m → j ≤ n → (∀ i, i < j → tb_I M (t + 1) i = tb_I M (o + 1) i) → tb_Wp E m_Tx_isSame d rc rs 15 [some (.inr t), some (.inr o), some (.inl (nI j))] [] M Q := by
  obtain ⟨k1, r0, k2, l2⟩ := hS.tx hT.1
  obtain ⟨k3, r1, k4, l4⟩ := hS.tx hO.1
  have hI := hT.2.1
  have hn := hO.2.2.1
  intro m
  induction m using Nat.strongRecOn with
  | ind m ih =>
    intro j hm hj hall
    refine tb_iload_2 d_Tx_isSame_15 rfl ?_
    refine tb_aload_0 d_Tx_isSame_16 rfl ?_
    refine g_Tx_15 d_Tx_isSame_17 rfl rfl (by first | exact k1 | exact k2 | exact k3 | exact k4) ?_
    refine tb_topI hI ?_
    refine tb_icmp_ge 46 d_Tx_isSame_20 (by decide) rfl (fun h20 => ?_) (fun h20 => ?_)
    · have hje : j = n := by have := (nI_leI (a := n) (b := j) (by omega) (by omega)).mp h20; omega
      subst hje
      refine tb_iconst (1) (by decide) d_Tx_isSame_46 rfl ?_
      refine tb_ireturn d_Tx_isSame_47 rfl (by first | rfl | assumption) ?_
      rw [bI_t ⟨rfl, hall⟩] at hQ
      exact hQ
    · have hlt : j < n := by
        have : ¬ n ≤ j := fun q => h20 ((nI_leI (a := n) (b := j) (by omega) (by omega)).mpr q)
        omega
      refine tb_aload_0 d_Tx_isSame_23 rfl ?_
      refine g_Tx_9 d_Tx_isSame_24 rfl rfl (by first | exact k1 | exact k2 | exact k3 | exact k4) ?_
      refine tb_topR r0 ?_
      refine tb_iload_2 d_Tx_isSame_27 rfl ?_
      refine tb_caload d_Tx_isSame_28 rfl (by first | exact k1 | exact k2 | exact k3 | exact k4) (by first | (rw [l2]; exact vp_in_nI (by omega) (by omega)) | (rw [l4]; exact vp_in_nI (by omega) (by omega))) ?_
      refine tb_topI (y := tb_I M (t + 1) j) (by rw [nI_clamp (show j < 2 ^ 31 by omega)]) ?_
      refine tb_aload_1 d_Tx_isSame_29 rfl ?_
      refine g_Tx_9 d_Tx_isSame_30 rfl rfl (by first | exact k1 | exact k2 | exact k3 | exact k4) ?_
      refine tb_topR r1 ?_
      refine tb_iload_2 d_Tx_isSame_33 rfl ?_
      refine tb_caload d_Tx_isSame_34 rfl (by first | exact k1 | exact k2 | exact k3 | exact k4) (by first | (rw [l2]; exact vp_in_nI (by omega) (by omega)) | (rw [l4]; exact vp_in_nI (by omega) (by omega))) ?_
      refine tb_topI (y := tb_I M (o + 1) j) (by rw [nI_clamp (show j < 2 ^ 31 by omega)]) ?_
      refine tb_icmp_eq 40 d_Tx_isSame_35 (by decide) rfl (fun h35 => ?_) (fun h35 => ?_)
      · refine tb_iinc_2 (1) d_Tx_isSame_40 rfl (by decide) (by decide) ?_
        refine tb_goto 15 d_Tx_isSame_43 (by decide) ?_
        rw [nI_1]
        exact ih (n - (j + 1)) (by omega) (j + 1) rfl (by omega) (fun i hi => by
          by_cases e : i = j
          · subst e; exact h35
          · exact hall i (by omega))
      · refine tb_iconst (0) (by decide) d_Tx_isSame_38 rfl ?_
        refine tb_ireturn d_Tx_isSame_39 rfl (by first | rfl | assumption) ?_
        rw [bI_f (fun q => h35 (q.2 j hlt))] at hQ
        exact hQ
theorem ok_Tx_isSame (hG : tb_G E) (hS : Sh M) (hT : TxOk M t n) {o n' : Nat} (hO : TxOk M o n') (d : Nat) : tb_Ret E m_Tx_isSame d [.inr (.inl t), .inr (.inl o)] M (some (.inl (bI (sameT M t n o n')))) M := by
  obtain ⟨k1, r0, k2, l2⟩ := hS.tx hT.1
  obtain ⟨k3, r1, k4, l4⟩ := hS.tx hO.1
  have hn := hT.2.2.1
  have hn' := hO.2.2.1
  refine tb_okOf hG (by decide) rfl (Nat.le_of_ble_eq_true rfl) rfl ?_
  refine tb_aload_0 d_Tx_isSame_0 rfl ?_
  refine g_Tx_15 d_Tx_isSame_1 rfl rfl (by first | exact k1 | exact k3) ?_
  refine tb_topI hT.2.1 ?_
  refine tb_aload_1 d_Tx_isSame_4 rfl ?_
  refine g_Tx_15 d_Tx_isSame_5 rfl rfl (by first | exact k1 | exact k3) ?_
  refine tb_topI hO.2.1 ?_
  refine tb_icmp_eq 13 d_Tx_isSame_8 (by decide) rfl (fun h8 => ?_) (fun h8 => ?_)
  · have hnn := (nI_eq (by omega) (by omega)).mp h8
    subst hnn
    refine tb_iconst (0) (by decide) d_Tx_isSame_13 rfl ?_
    refine tb_istore_2 d_Tx_isSame_14 rfl (by decide) ?_
    exact lp_Tx_isSame hS hT hO ⟨rfl, rfl⟩ n 0 rfl (Nat.zero_le _) (fun i hi => absurd hi (Nat.not_lt_zero _))
  · have hnn : ¬ n = n' := fun q => h8 (by rw [q])
    refine tb_iconst (0) (by decide) d_Tx_isSame_11 rfl ?_
    refine tb_ireturn d_Tx_isSame_12 rfl (by first | rfl | assumption) ?_
    exact ⟨by rw [bI_f (fun q => hnn q.1)], rfl⟩
end Text
end
section
/-! Text: is it a command? In words on its characters a (0 behind its end) and its length n. -/
def filesP (a : Nat → Int32) (n f m : Nat) : Prop := n = f + m ∧ ∀ i, f ≤ i → i < n → fOf (a i) ≠ -1
def digsP (a : Nat → Int32) (n f : Nat) : Prop := f + 2 ≤ n ∧ n ≤ f + 5 ∧ (∀ i, f ≤ i → i + 1 < n → dOf (a i) ≠ -1) ∧ fOf (a (n - 1)) ≠ -1
def plainP (a : Nat → Int32) (n s : Nat) : Prop :=
  (a s = 43 ∧ filesP a n (s + 1) 3) ∨ (a s = 99 ∧ filesP a n (s + 1) 2) ∨ (a s = 102 ∧ dOf (a (s + 1)) ≠ -1 ∧ filesP a n (s + 2) 2) ∨ (a s = 106 ∧ filesP a n (s + 1) 3) ∨ (a s = 108 ∧ filesP a n (s + 1) 1) ∨
  (a s = 110 ∧ digsP a n (s + 1)) ∨ (a s = 112 ∧ filesP a n (s + 1) 2) ∨ (a s = 115 ∧ filesP a n (s + 1) 2) ∨ (a s = 120 ∧ filesP a n (s + 1) 1)
/-- a question and its file at s -/
def askP (a : Nat → Int32) (n s : Nat) : Prop := s < n ∧ a s = 63 ∧ fOf (a (s + 1)) ≠ -1
def cmdP (a : Nat → Int32) (n : Nat) : Prop := ∃ q, (∀ i, i < q → askP a n (2 * i)) ∧ ¬ askP a n (2 * q) ∧ plainP a n (2 * q)
section Text2
variable {E : tb_E} {M : tb_M} {t n : Nat}
theorem lp_Tx_files (hG : tb_G E) (hS : Sh M) (hT : TxOk M t n) {f mm : Nat} (hf : f ≤ 64) (hm0 : n = f + mm) {d rc rs : Nat} {Q : tb_O → tb_M → Prop} (hQ : Q (.inl (some (.inl (bI (filesP (ta M t n) n f mm))))) M) : ∀ (m j : Nat), n - j = m → f ≤ j → j ≤ n → (∀ i, f ≤ i → i < j → fOf (ta M t n i) ≠ -1) → tb_Wp E m_Tx_isFilesToEnd (d + 2) rc rs 14 [some (.inr t), some (.inl (nI f)), some (.inl (nI mm)), some (.inl (nI j))] [] M Q := by
  obtain ⟨k1, r0, k2, l2⟩ := hS.tx hT.1
  have hI := hT.2.1
  have hn := hT.2.2.1
  intro m
  induction m using Nat.strongRecOn with
  | ind m ih =>
    intro j hm hfj hj hall
    refine tb_iload_3 d_Tx_isFilesToEnd_14 rfl ?_
    refine tb_aload_0 d_Tx_isFilesToEnd_15 rfl ?_
    refine g_Tx_15 d_Tx_isFilesToEnd_16 rfl rfl (by first | exact k1) ?_
    refine tb_topI hI ?_
    refine tb_icmp_ge 39 d_Tx_isFilesToEnd_19 (by decide) rfl (fun h19 => ?_) (fun h19 => ?_)
    · have hje : j = n := by have := (nI_leI (a := n) (b := j) (by omega) (by omega)).mp h19; omega
      subst hje
      refine tb_iconst (1) (by decide) d_Tx_isFilesToEnd_39 rfl ?_
      refine tb_ireturn d_Tx_isFilesToEnd_40 rfl (by first | rfl | assumption) ?_
      rw [bI_t ⟨hm0, hall⟩] at hQ
      exact hQ
    · have hlt : j < n := by
        have : ¬ n ≤ j := fun q => h19 ((nI_leI (a := n) (b := j) (by omega) (by omega)).mpr q)
        omega
      refine tb_aload_0 d_Tx_isFilesToEnd_22 rfl ?_
      refine tb_iload_3 d_Tx_isFilesToEnd_23 rfl ?_
      refine tb_callVr c_Tx_23 d_Tx_isFilesToEnd_24 rfl rfl rfl (by decide) (by first | exact k1) (ok_Tx_fileAt hG hS hT (show j < 2 ^ 31 by omega) d) ?_
      refine tb_iconst (-1) (by decide) d_Tx_isFilesToEnd_27 rfl ?_
      refine tb_icmp_ne 33 d_Tx_isFilesToEnd_28 (by decide) rfl (fun h28 => ?_) (fun h28 => ?_)
      · refine tb_iinc_3 (1) d_Tx_isFilesToEnd_33 rfl (by decide) (by decide) ?_
        refine tb_goto 14 d_Tx_isFilesToEnd_36 (by decide) ?_
        rw [nI_1]
        exact ih (n - (j + 1)) (by omega) (j + 1) rfl (by omega) (by omega) (fun i h1 h2 => by
          by_cases e : i = j
          · subst e; exact h28
          · exact hall i h1 (by omega))
      · refine tb_iconst (0) (by decide) d_Tx_isFilesToEnd_31 rfl ?_
        refine tb_ireturn d_Tx_isFilesToEnd_32 rfl (by first | rfl | assumption) ?_
        rw [bI_f (fun q => q.2 j hfj hlt h28)] at hQ
        exact hQ
theorem ok_Tx_files (hG : tb_G E) (hS : Sh M) (hT : TxOk M t n) {f mm : Nat} (hf : f ≤ 64) (hm : mm ≤ 4) (d : Nat) : tb_Ret E m_Tx_isFilesToEnd (d + 2) [.inr (.inl t), .inl (nI f), .inl (nI mm)] M (some (.inl (bI (filesP (ta M t n) n f mm)))) M := by
  obtain ⟨k1, r0, k2, l2⟩ := hS.tx hT.1
  have hI := hT.2.1
  have hn := hT.2.2.1
  refine tb_okOf hG (by decide) rfl (Nat.le_of_ble_eq_true rfl) rfl ?_
  refine tb_aload_0 d_Tx_isFilesToEnd_0 rfl ?_
  refine g_Tx_15 d_Tx_isFilesToEnd_1 rfl rfl (by first | exact k1) ?_
  refine tb_topI hI ?_
  refine tb_iload_1 d_Tx_isFilesToEnd_4 rfl ?_
  refine tb_iload_2 d_Tx_isFilesToEnd_5 rfl ?_
  refine tb_iadd d_Tx_isFilesToEnd_6 rfl ?_
  rw [nI_add]
  refine tb_icmp_eq 12 d_Tx_isFilesToEnd_7 (by decide) rfl (fun h7 => ?_) (fun h7 => ?_)
  · have hm0 : n = f + mm := (nI_eq (by omega) (by omega)).mp h7
    refine tb_iload_1 d_Tx_isFilesToEnd_12 rfl ?_
    refine tb_istore_3 d_Tx_isFilesToEnd_13 rfl (by decide) ?_
    exact lp_Tx_files hG hS hT hf hm0 ⟨rfl, rfl⟩ (n - f) f rfl (Nat.le_refl _) (by omega) (fun i h1 h2 => absurd h2 (by omega))
  · have hm0 : ¬ n = f + mm := fun q => h7 (by rw [q])
    refine tb_iconst (0) (by decide) d_Tx_isFilesToEnd_10 rfl ?_
    refine tb_ireturn d_Tx_isFilesToEnd_11 rfl (by first | rfl | assumption) ?_
    exact ⟨by rw [bI_f (fun q => hm0 q.1)], rfl⟩
theorem lp_Tx_digs (hG : tb_G E) (hS : Sh M) (hT : TxOk M t n) {f : Nat} (hf : f ≤ 64) (hb : f + 2 ≤ n ∧ n ≤ f + 5) {d rc rs : Nat} {Q : tb_O → tb_M → Prop} (hQ : Q (.inl (some (.inl (bI (digsP (ta M t n) n f))))) M) : ∀ (m j : Nat), n - j = m → f ≤ j → j + 1 ≤ n → (∀ i, f ≤ i → i < j → dOf (ta M t n i) ≠ -1) → tb_Wp E m_Tx_isDigitsAndFile (d + 2) rc rs 25 [some (.inr t), some (.inl (nI f)), some (.inl (nI (n - 1))), some (.inl (nI j))] [] M Q := by
  obtain ⟨k1, r0, k2, l2⟩ := hS.tx hT.1
  have hI := hT.2.1
  have hn := hT.2.2.1
  intro m
  induction m using Nat.strongRecOn with
  | ind m ih =>
    intro j hm hfj hj hall
    refine tb_iload_3 d_Tx_isDigitsAndFile_25 rfl ?_
    refine tb_iload_2 d_Tx_isDigitsAndFile_26 rfl ?_
    refine tb_icmp_ge 47 d_Tx_isDigitsAndFile_27 (by decide) rfl (fun h27 => ?_) (fun h27 => ?_)
    · have hje : j + 1 = n := by have := (nI_leI (a := n - 1) (b := j) (by omega) (by omega)).mp h27; omega
      refine tb_aload_0 d_Tx_isDigitsAndFile_47 rfl ?_
      refine tb_iload_2 d_Tx_isDigitsAndFile_48 rfl ?_
      refine tb_callVr c_Tx_23 d_Tx_isDigitsAndFile_49 rfl rfl rfl (by decide) (by first | exact k1) (ok_Tx_fileAt hG hS hT (show n - 1 < 2 ^ 31 by omega) d) ?_
      refine tb_iconst (-1) (by decide) d_Tx_isDigitsAndFile_52 rfl ?_
      refine tb_icmp_eq 60 d_Tx_isDigitsAndFile_53 (by decide) rfl (fun h53 => ?_) (fun h53 => ?_)
      · have hfin : ¬ digsP (ta M t n) n f := fun q => q.2.2.2 h53
        rw [bI_f hfin] at hQ
        refine tb_iconst (0) (by decide) d_Tx_isDigitsAndFile_60 rfl ?_
        refine tb_ireturn d_Tx_isDigitsAndFile_61 rfl (by first | rfl | assumption) ?_
        exact hQ
      · have hfin : digsP (ta M t n) n f := ⟨hb.1, hb.2, fun i h1 h2 => hall i h1 (by omega), h53⟩
        rw [bI_t hfin] at hQ
        refine tb_iconst (1) (by decide) d_Tx_isDigitsAndFile_56 rfl ?_
        refine tb_goto 61 d_Tx_isDigitsAndFile_57 (by decide) ?_
        refine tb_ireturn d_Tx_isDigitsAndFile_61 rfl (by first | rfl | assumption) ?_
        exact hQ
    · have hlt : j + 1 < n := by
        have : ¬ n - 1 ≤ j := fun q => h27 ((nI_leI (a := n - 1) (b := j) (by omega) (by omega)).mpr q)
        omega
      refine tb_aload_0 d_Tx_isDigitsAndFile_30 rfl ?_
      refine tb_iload_3 d_Tx_isDigitsAndFile_31 rfl ?_
      refine tb_callVr c_Tx_35 d_Tx_isDigitsAndFile_32 rfl rfl rfl (by decide) (by first | exact k1) (ok_Tx_digitAt hG hS hT (show j < 2 ^ 31 by omega) d) ?_
      refine tb_iconst (-1) (by decide) d_Tx_isDigitsAndFile_35 rfl ?_
      refine tb_icmp_ne 41 d_Tx_isDigitsAndFile_36 (by decide) rfl (fun h36 => ?_) (fun h36 => ?_)
      · refine tb_iinc_3 (1) d_Tx_isDigitsAndFile_41 rfl (by decide) (by decide) ?_
        refine tb_goto 25 d_Tx_isDigitsAndFile_44 (by decide) ?_
        rw [nI_1]
        exact ih (n - (j + 1)) (by omega) (j + 1) rfl (by omega) (by omega) (fun i h1 h2 => by
          by_cases e : i = j
          · subst e; exact h36
          · exact hall i h1 (by omega))
      · refine tb_iconst (0) (by decide) d_Tx_isDigitsAndFile_39 rfl ?_
        refine tb_ireturn d_Tx_isDigitsAndFile_40 rfl (by first | rfl | assumption) ?_
        rw [bI_f (fun q => q.2.2.1 j hfj hlt h36)] at hQ
        exact hQ
theorem nI_sub1 {n : Nat} (h : 1 ≤ n) : nI n - 1 = nI (n - 1) := by
  obtain ⟨k, rfl⟩ : ∃ k, n = k + 1 := ⟨n - 1, by omega⟩
  exact nI_pred k
theorem ok_Tx_digs (hG : tb_G E) (hS : Sh M) (hT : TxOk M t n) {f : Nat} (hf : f ≤ 64) (d : Nat) : tb_Ret E m_Tx_isDigitsAndFile (d + 2) [.inr (.inl t), .inl (nI f)] M (some (.inl (bI (digsP (ta M t n) n f)))) M := by
  obtain ⟨k1, r0, k2, l2⟩ := hS.tx hT.1
  have hI := hT.2.1
  have hn := hT.2.2.1
  by_cases hn0 : n = 0
  · subst hn0
    have hno : ¬ digsP (ta M t 0) 0 f := fun q => by have := q.1; omega
    rw [bI_f hno]
    refine tb_okOf hG (by decide) rfl (Nat.le_of_ble_eq_true rfl) rfl ?_
    refine tb_aload_0 d_Tx_isDigitsAndFile_0 rfl ?_
    refine g_Tx_15 d_Tx_isDigitsAndFile_1 rfl rfl (by first | exact k1) ?_
    refine tb_topI hI ?_
    refine tb_iconst (1) (by decide) d_Tx_isDigitsAndFile_4 rfl ?_
    refine tb_isub d_Tx_isDigitsAndFile_5 rfl ?_
    refine tb_istore_2 d_Tx_isDigitsAndFile_6 rfl (by decide) ?_
    refine tb_iload_2 d_Tx_isDigitsAndFile_7 rfl ?_
    refine tb_iload_1 d_Tx_isDigitsAndFile_8 rfl ?_
    refine tb_iconst (1) (by decide) d_Tx_isDigitsAndFile_9 rfl ?_
    refine tb_iadd d_Tx_isDigitsAndFile_10 rfl ?_
    rw [nI_1]
    refine tb_icmp_lt 21 d_Tx_isDigitsAndFile_11 (by decide) rfl (fun h11 => ?_) (fun h11 => ?_)
    · refine tb_iconst (0) (by decide) d_Tx_isDigitsAndFile_21 rfl ?_
      refine tb_ireturn d_Tx_isDigitsAndFile_22 rfl (by first | rfl | assumption) ?_
      exact ⟨rfl, rfl⟩
    · exact absurd (show nI 0 - 1 < nI (f + 1) from Int32.lt_iff_toInt_lt.mpr (by rw [nI_toInt (by omega)]; show (-1 : Int) < _; omega)) h11
  · have hs1 : nI n - 1 = nI (n - 1) := nI_sub1 (by omega)
    refine tb_okOf hG (by decide) rfl (Nat.le_of_ble_eq_true rfl) rfl ?_
    refine tb_aload_0 d_Tx_isDigitsAndFile_0 rfl ?_
    refine g_Tx_15 d_Tx_isDigitsAndFile_1 rfl rfl (by first | exact k1) ?_
    refine tb_topI hI ?_
    refine tb_iconst (1) (by decide) d_Tx_isDigitsAndFile_4 rfl ?_
    refine tb_isub d_Tx_isDigitsAndFile_5 rfl ?_
    rw [hs1]
    refine tb_istore_2 d_Tx_isDigitsAndFile_6 rfl (by decide) ?_
    refine tb_iload_2 d_Tx_isDigitsAndFile_7 rfl ?_
    refine tb_iload_1 d_Tx_isDigitsAndFile_8 rfl ?_
    refine tb_iconst (1) (by decide) d_Tx_isDigitsAndFile_9 rfl ?_
    refine tb_iadd d_Tx_isDigitsAndFile_10 rfl ?_
    rw [nI_1]
    refine tb_icmp_lt 21 d_Tx_isDigitsAndFile_11 (by decide) rfl (fun h11 => ?_) (fun h11 => ?_)
    · have hb : ¬ f + 2 ≤ n := by have := (nI_ltI (by omega) (by omega)).mp h11; omega
      refine tb_iconst (0) (by decide) d_Tx_isDigitsAndFile_21 rfl ?_
      refine tb_ireturn d_Tx_isDigitsAndFile_22 rfl (by first | rfl | assumption) ?_
      have hno : ¬ digsP (ta M t n) n f := fun q => by first | exact hb q.1 | exact hb q.2.1
      exact ⟨by rw [bI_f hno], rfl⟩
    · have hb1 : f + 2 ≤ n := by
        have : ¬ n - 1 < f + 1 := fun q => h11 ((nI_ltI (by omega) (by omega)).mpr q)
        omega
      refine tb_iload_2 d_Tx_isDigitsAndFile_14 rfl ?_
      refine tb_iload_1 d_Tx_isDigitsAndFile_15 rfl ?_
      refine tb_iconst (4) (by decide) d_Tx_isDigitsAndFile_16 rfl ?_
      refine tb_iadd d_Tx_isDigitsAndFile_17 rfl ?_
      rw [show nI f + 4 = nI (f + 4) from nI_add f 4]
      refine tb_icmp_le 23 d_Tx_isDigitsAndFile_18 (by decide) rfl (fun h18 => ?_) (fun h18 => ?_)
      · have hb2 : n ≤ f + 5 := by have := (nI_leI (by omega) (by omega)).mp h18; omega
        refine tb_iload_1 d_Tx_isDigitsAndFile_23 rfl ?_
        refine tb_istore_3 d_Tx_isDigitsAndFile_24 rfl (by decide) ?_
        exact lp_Tx_digs hG hS hT hf ⟨hb1, hb2⟩ ⟨rfl, rfl⟩ (n - f) f rfl (Nat.le_refl _) (by omega) (fun i h1 h2 => absurd h2 (by omega))
      · have hb : ¬ n ≤ f + 5 := fun q => h18 ((nI_leI (by omega) (by omega)).mpr (by omega))
        refine tb_iconst (0) (by decide) d_Tx_isDigitsAndFile_21 rfl ?_
        refine tb_ireturn d_Tx_isDigitsAndFile_22 rfl (by first | rfl | assumption) ?_
        have hno : ¬ digsP (ta M t n) n f := fun q => by first | exact hb q.1 | exact hb q.2.1
        exact ⟨by rw [bI_f hno], rfl⟩
theorem ok_Tx_plain (hG : tb_G E) (hS : Sh M) (hT : TxOk M t n) {s : Nat} (hs : s ≤ 60) (d : Nat) : tb_Ret E m_Tx_isPlainCommand (d + 3) [.inr (.inl t), .inl (nI s)] M (some (.inl (bI (plainP (ta M t n) n s)))) M := by
  obtain ⟨k1, r0, k2, l2⟩ := hS.tx hT.1
  have hI := hT.2.1
  have hn := hT.2.2.1
  refine tb_okOf hG (by decide) rfl (Nat.le_of_ble_eq_true rfl) rfl ?_
  refine tb_aload_0 d_Tx_isPlainCommand_0 rfl ?_
  refine tb_iload_1 d_Tx_isPlainCommand_1 rfl ?_
  refine tb_callVr c_Tx_19 d_Tx_isPlainCommand_2 rfl rfl rfl (by decide) (by first | exact k1) (ok_Tx_at hG hS hT (show s < 2 ^ 31 by omega) (d + 2)) ?_
  refine tb_istore_2 d_Tx_isPlainCommand_5 rfl (by decide) ?_
  refine tb_iload_2 d_Tx_isPlainCommand_6 rfl ?_
  by_cases e43 : ta M t n s = 43
  · refine tb_lookup (99) 106 d_Tx_isPlainCommand_7 (by decide) (by rw [e43]; decide +kernel) (by decide) ?_
    refine tb_aload_0 d_Tx_isPlainCommand_106 rfl ?_
    refine tb_iload_1 d_Tx_isPlainCommand_107 rfl ?_
    refine tb_iconst (1) (by decide) d_Tx_isPlainCommand_108 rfl ?_
    refine tb_iadd d_Tx_isPlainCommand_109 rfl ?_
    rw [nI_1]
    refine tb_iconst (3) (by decide) d_Tx_isPlainCommand_110 rfl ?_
    refine tb_callVr c_Tx_31 d_Tx_isPlainCommand_111 rfl rfl rfl (by decide) (by first | exact k1) (ok_Tx_files (mm := 3) hG hS hT (show s + 1 ≤ 64 by omega) (by decide) d) ?_
    refine tb_ireturn d_Tx_isPlainCommand_114 rfl (by first | rfl | exact bI_nar _) ?_
    exact ⟨by congr 3; exact bI_iff (by simp [plainP, *]), rfl⟩
  by_cases e99 : ta M t n s = 99
  · refine tb_lookup (90) 97 d_Tx_isPlainCommand_7 (by decide) (by rw [e99]; decide +kernel) (by decide) ?_
    refine tb_aload_0 d_Tx_isPlainCommand_97 rfl ?_
    refine tb_iload_1 d_Tx_isPlainCommand_98 rfl ?_
    refine tb_iconst (1) (by decide) d_Tx_isPlainCommand_99 rfl ?_
    refine tb_iadd d_Tx_isPlainCommand_100 rfl ?_
    rw [nI_1]
    refine tb_iconst (2) (by decide) d_Tx_isPlainCommand_101 rfl ?_
    refine tb_callVr c_Tx_31 d_Tx_isPlainCommand_102 rfl rfl rfl (by decide) (by first | exact k1) (ok_Tx_files (mm := 2) hG hS hT (show s + 1 ≤ 64 by omega) (by decide) d) ?_
    refine tb_ireturn d_Tx_isPlainCommand_105 rfl (by first | rfl | exact bI_nar _) ?_
    exact ⟨by congr 3; exact bI_iff (by simp [plainP, *]), rfl⟩
  by_cases e102 : ta M t n s = 102
  · refine tb_lookup (108) 115 d_Tx_isPlainCommand_7 (by decide) (by rw [e102]; decide +kernel) (by decide) ?_
    refine tb_aload_0 d_Tx_isPlainCommand_115 rfl ?_
    refine tb_iload_1 d_Tx_isPlainCommand_116 rfl ?_
    refine tb_iconst (1) (by decide) d_Tx_isPlainCommand_117 rfl ?_
    refine tb_iadd d_Tx_isPlainCommand_118 rfl ?_
    rw [nI_1]
    refine tb_callVr c_Tx_35 d_Tx_isPlainCommand_119 rfl rfl rfl (by decide) (by first | exact k1) (ok_Tx_digitAt hG hS hT (show s + 1 < 2 ^ 31 by omega) (d + 1)) ?_
    refine tb_iconst (-1) (by decide) d_Tx_isPlainCommand_122 rfl ?_
    refine tb_icmp_eq 141 d_Tx_isPlainCommand_123 (by decide) rfl (fun h123 => ?_) (fun h123 => ?_)
    · have hfin : bI (plainP (ta M t n) n s) = 0 := bI_f (by simp [plainP, *])
      refine tb_iconst (0) (by decide) d_Tx_isPlainCommand_141 rfl ?_
      refine tb_ireturn d_Tx_isPlainCommand_142 rfl (by first | rfl | exact bI_nar _) ?_
      exact ⟨by rw [hfin], rfl⟩
    · refine tb_aload_0 d_Tx_isPlainCommand_126 rfl ?_
      refine tb_iload_1 d_Tx_isPlainCommand_127 rfl ?_
      refine tb_iconst (2) (by decide) d_Tx_isPlainCommand_128 rfl ?_
      refine tb_iadd d_Tx_isPlainCommand_129 rfl ?_
      rw [show nI s + 2 = nI (s + 2) from nI_add s 2]
      refine tb_iconst (2) (by decide) d_Tx_isPlainCommand_130 rfl ?_
      refine tb_callVr c_Tx_31 d_Tx_isPlainCommand_131 rfl rfl rfl (by decide) (by first | exact k1) (ok_Tx_files (mm := 2) hG hS hT (show s + 2 ≤ 64 by omega) (by decide) d) ?_
      refine tb_if_eq 141 d_Tx_isPlainCommand_134 (by decide) rfl (fun h134 => ?_) (fun h134 => ?_)
      · have hh : ¬ filesP (ta M t n) n (s + 2) 2 := bI_0.mp h134
        have hfin : bI (plainP (ta M t n) n s) = 0 := bI_f (by simp [plainP, *])
        refine tb_iconst (0) (by decide) d_Tx_isPlainCommand_141 rfl ?_
        refine tb_ireturn d_Tx_isPlainCommand_142 rfl (by first | rfl | exact bI_nar _) ?_
        exact ⟨by rw [hfin], rfl⟩
      · have hh : filesP (ta M t n) n (s + 2) 2 := Classical.not_not.mp (fun q => h134 (bI_0.mpr q))
        have hfin : bI (plainP (ta M t n) n s) = 1 := bI_t (by simp [plainP, *])
        refine tb_iconst (1) (by decide) d_Tx_isPlainCommand_137 rfl ?_
        refine tb_goto 142 d_Tx_isPlainCommand_138 (by decide) ?_
        refine tb_ireturn d_Tx_isPlainCommand_142 rfl (by first | rfl | exact bI_nar _) ?_
        exact ⟨by rw [hfin], rfl⟩
  by_cases e106 : ta M t n s = 106
  · refine tb_lookup (99) 106 d_Tx_isPlainCommand_7 (by decide) (by rw [e106]; decide +kernel) (by decide) ?_
    refine tb_aload_0 d_Tx_isPlainCommand_106 rfl ?_
    refine tb_iload_1 d_Tx_isPlainCommand_107 rfl ?_
    refine tb_iconst (1) (by decide) d_Tx_isPlainCommand_108 rfl ?_
    refine tb_iadd d_Tx_isPlainCommand_109 rfl ?_
    rw [nI_1]
    refine tb_iconst (3) (by decide) d_Tx_isPlainCommand_110 rfl ?_
    refine tb_callVr c_Tx_31 d_Tx_isPlainCommand_111 rfl rfl rfl (by decide) (by first | exact k1) (ok_Tx_files (mm := 3) hG hS hT (show s + 1 ≤ 64 by omega) (by decide) d) ?_
    refine tb_ireturn d_Tx_isPlainCommand_114 rfl (by first | rfl | exact bI_nar _) ?_
    exact ⟨by congr 3; exact bI_iff (by simp [plainP, *]), rfl⟩
  by_cases e108 : ta M t n s = 108
  · refine tb_lookup (81) 88 d_Tx_isPlainCommand_7 (by decide) (by rw [e108]; decide +kernel) (by decide) ?_
    refine tb_aload_0 d_Tx_isPlainCommand_88 rfl ?_
    refine tb_iload_1 d_Tx_isPlainCommand_89 rfl ?_
    refine tb_iconst (1) (by decide) d_Tx_isPlainCommand_90 rfl ?_
    refine tb_iadd d_Tx_isPlainCommand_91 rfl ?_
    rw [nI_1]
    refine tb_iconst (1) (by decide) d_Tx_isPlainCommand_92 rfl ?_
    refine tb_callVr c_Tx_31 d_Tx_isPlainCommand_93 rfl rfl rfl (by decide) (by first | exact k1) (ok_Tx_files (mm := 1) hG hS hT (show s + 1 ≤ 64 by omega) (by decide) d) ?_
    refine tb_ireturn d_Tx_isPlainCommand_96 rfl (by first | rfl | exact bI_nar _) ?_
    exact ⟨by congr 3; exact bI_iff (by simp [plainP, *]), rfl⟩
  by_cases e110 : ta M t n s = 110
  · refine tb_lookup (136) 143 d_Tx_isPlainCommand_7 (by decide) (by rw [e110]; decide +kernel) (by decide) ?_
    refine tb_aload_0 d_Tx_isPlainCommand_143 rfl ?_
    refine tb_iload_1 d_Tx_isPlainCommand_144 rfl ?_
    refine tb_iconst (1) (by decide) d_Tx_isPlainCommand_145 rfl ?_
    refine tb_iadd d_Tx_isPlainCommand_146 rfl ?_
    rw [nI_1]
    refine tb_callVr c_Tx_38 d_Tx_isPlainCommand_147 rfl rfl rfl (by decide) (by first | exact k1) (ok_Tx_digs hG hS hT (show s + 1 ≤ 64 by omega) d) ?_
    refine tb_ireturn d_Tx_isPlainCommand_150 rfl (by first | rfl | exact bI_nar _) ?_
    exact ⟨by congr 3; exact bI_iff (by simp [plainP, *]), rfl⟩
  by_cases e112 : ta M t n s = 112
  · refine tb_lookup (90) 97 d_Tx_isPlainCommand_7 (by decide) (by rw [e112]; decide +kernel) (by decide) ?_
    refine tb_aload_0 d_Tx_isPlainCommand_97 rfl ?_
    refine tb_iload_1 d_Tx_isPlainCommand_98 rfl ?_
    refine tb_iconst (1) (by decide) d_Tx_isPlainCommand_99 rfl ?_
    refine tb_iadd d_Tx_isPlainCommand_100 rfl ?_
    rw [nI_1]
    refine tb_iconst (2) (by decide) d_Tx_isPlainCommand_101 rfl ?_
    refine tb_callVr c_Tx_31 d_Tx_isPlainCommand_102 rfl rfl rfl (by decide) (by first | exact k1) (ok_Tx_files (mm := 2) hG hS hT (show s + 1 ≤ 64 by omega) (by decide) d) ?_
    refine tb_ireturn d_Tx_isPlainCommand_105 rfl (by first | rfl | exact bI_nar _) ?_
    exact ⟨by congr 3; exact bI_iff (by simp [plainP, *]), rfl⟩
  by_cases e115 : ta M t n s = 115
  · refine tb_lookup (90) 97 d_Tx_isPlainCommand_7 (by decide) (by rw [e115]; decide +kernel) (by decide) ?_
    refine tb_aload_0 d_Tx_isPlainCommand_97 rfl ?_
    refine tb_iload_1 d_Tx_isPlainCommand_98 rfl ?_
    refine tb_iconst (1) (by decide) d_Tx_isPlainCommand_99 rfl ?_
    refine tb_iadd d_Tx_isPlainCommand_100 rfl ?_
    rw [nI_1]
    refine tb_iconst (2) (by decide) d_Tx_isPlainCommand_101 rfl ?_
    refine tb_callVr c_Tx_31 d_Tx_isPlainCommand_102 rfl rfl rfl (by decide) (by first | exact k1) (ok_Tx_files (mm := 2) hG hS hT (show s + 1 ≤ 64 by omega) (by decide) d) ?_
    refine tb_ireturn d_Tx_isPlainCommand_105 rfl (by first | rfl | exact bI_nar _) ?_
    exact ⟨by congr 3; exact bI_iff (by simp [plainP, *]), rfl⟩
  by_cases e120 : ta M t n s = 120
  · refine tb_lookup (81) 88 d_Tx_isPlainCommand_7 (by decide) (by rw [e120]; decide +kernel) (by decide) ?_
    refine tb_aload_0 d_Tx_isPlainCommand_88 rfl ?_
    refine tb_iload_1 d_Tx_isPlainCommand_89 rfl ?_
    refine tb_iconst (1) (by decide) d_Tx_isPlainCommand_90 rfl ?_
    refine tb_iadd d_Tx_isPlainCommand_91 rfl ?_
    rw [nI_1]
    refine tb_iconst (1) (by decide) d_Tx_isPlainCommand_92 rfl ?_
    refine tb_callVr c_Tx_31 d_Tx_isPlainCommand_93 rfl rfl rfl (by decide) (by first | exact k1) (ok_Tx_files (mm := 1) hG hS hT (show s + 1 ≤ 64 by omega) (by decide) d) ?_
    refine tb_ireturn d_Tx_isPlainCommand_96 rfl (by first | rfl | exact bI_nar _) ?_
    exact ⟨by congr 3; exact bI_iff (by simp [plainP, *]), rfl⟩
  refine tb_lookup (144) 151 d_Tx_isPlainCommand_7 (by decide) (by show Op.lookupswitch.offset [(43, 99), (99, 90), (102, 108), (106, 99), (108, 81), (110, 136), (112, 90), (115, 90), (120, 81)] (144) _ = _; rw [lv_osw e43 (by decide), lv_osw e99 (by decide), lv_osw e102 (by decide), lv_osw e106 (by decide), lv_osw e108 (by decide), lv_osw e110 (by decide), lv_osw e112 (by decide), lv_osw e115 (by decide), lv_osw e120 (by decide)]; rfl) (by decide) ?_
  refine tb_iconst (0) (by decide) d_Tx_isPlainCommand_151 rfl ?_
  refine tb_ireturn d_Tx_isPlainCommand_152 rfl (by first | rfl | exact bI_nar _) ?_
  exact ⟨by rw [bI_f (by simp [plainP, *])], rfl⟩
theorem lp_Tx_cmd (hG : tb_G E) (hS : Sh M) (hT : TxOk M t n) {d rc rs : Nat} {Q : tb_O → tb_M → Prop} (hQ : Q (.inl (some (.inl (bI (cmdP (ta M t n) n))))) M) : ∀ (m j : Nat), n + 2 - 2 * j = m → 2 * j ≤ n + 2 → (∀ i, i < j → askP (ta M t n) n (2 * i)) → tb_Wp E m_Tx_isCommand (d + 4) rc rs 2 [some (.inr t), some (.inl (nI (2 * j)))] [] M Q := by
  obtain ⟨k1, r0, k2, l2⟩ := hS.tx hT.1
  have hI := hT.2.1
  have hn := hT.2.2.1
  intro m
  induction m using Nat.strongRecOn with
  | ind m ih =>
    intro j hm hj hall
    have hend : ¬ askP (ta M t n) n (2 * j) → bI (cmdP (ta M t n) n) = bI (plainP (ta M t n) n (2 * j)) := by
      intro hno
      refine bI_iff ⟨fun q => ?_, fun q => ⟨j, hall, hno, q⟩⟩
      obtain ⟨q, h1, h2, h3⟩ := q
      have hq : q = j := by
        rcases Nat.lt_trichotomy q j with h | h | h
        · exact absurd (hall q h) h2
        · exact h
        · exact absurd (h1 j h) hno
      subst hq
      exact h3
    refine tb_iload_1 d_Tx_isCommand_2 rfl ?_
    refine tb_aload_0 d_Tx_isCommand_3 rfl ?_
    refine g_Tx_15 d_Tx_isCommand_4 rfl rfl (by first | exact k1) ?_
    refine tb_topI hI ?_
    refine tb_icmp_ge 37 d_Tx_isCommand_7 (by decide) rfl (fun h7 => ?_) (fun h7 => ?_)
    · have hno : ¬ askP (ta M t n) n (2 * j) := fun q => by
        have := (nI_leI (by omega) (by omega)).mp h7
        have := q.1
        omega
      refine tb_aload_0 d_Tx_isCommand_37 rfl ?_
      refine tb_iload_1 d_Tx_isCommand_38 rfl ?_
      refine tb_callVr c_Tx_27 d_Tx_isCommand_39 rfl rfl rfl (by decide) (by first | exact k1) (ok_Tx_plain hG hS hT (show 2 * j ≤ 60 by omega) d) ?_
      refine tb_ireturn d_Tx_isCommand_42 rfl (by exact bI_nar _) ?_
      rw [hend hno] at hQ
      exact hQ
    · have hlt : 2 * j < n := by
        have : ¬ n ≤ 2 * j := fun q => h7 ((nI_leI (by omega) (by omega)).mpr q)
        omega
      refine tb_aload_0 d_Tx_isCommand_10 rfl ?_
      refine tb_iload_1 d_Tx_isCommand_11 rfl ?_
      refine tb_callVr c_Tx_19 d_Tx_isCommand_12 rfl rfl rfl (by decide) (by first | exact k1) (ok_Tx_at hG hS hT (show 2 * j < 2 ^ 31 by omega) (d + 3)) ?_
      refine tb_bipush (63) (by decide) d_Tx_isCommand_15 rfl ?_
      refine tb_icmp_ne 37 d_Tx_isCommand_17 (by decide) rfl (fun h17 => ?_) (fun h17 => ?_)
      · have hno : ¬ askP (ta M t n) n (2 * j) := fun q => h17 q.2.1
        refine tb_aload_0 d_Tx_isCommand_37 rfl ?_
        refine tb_iload_1 d_Tx_isCommand_38 rfl ?_
        refine tb_callVr c_Tx_27 d_Tx_isCommand_39 rfl rfl rfl (by decide) (by first | exact k1) (ok_Tx_plain hG hS hT (show 2 * j ≤ 60 by omega) d) ?_
        refine tb_ireturn d_Tx_isCommand_42 rfl (by exact bI_nar _) ?_
        rw [hend hno] at hQ
        exact hQ
      · refine tb_aload_0 d_Tx_isCommand_20 rfl ?_
        refine tb_iload_1 d_Tx_isCommand_21 rfl ?_
        refine tb_iconst (1) (by decide) d_Tx_isCommand_22 rfl ?_
        refine tb_iadd d_Tx_isCommand_23 rfl ?_
        rw [nI_1]
        refine tb_callVr c_Tx_23 d_Tx_isCommand_24 rfl rfl rfl (by decide) (by first | exact k1) (ok_Tx_fileAt hG hS hT (show 2 * j + 1 < 2 ^ 31 by omega) (d + 2)) ?_
        refine tb_iconst (-1) (by decide) d_Tx_isCommand_27 rfl ?_
        refine tb_icmp_eq 37 d_Tx_isCommand_28 (by decide) rfl (fun h28 => ?_) (fun h28 => ?_)
        · have hno : ¬ askP (ta M t n) n (2 * j) := fun q => q.2.2 h28
          refine tb_aload_0 d_Tx_isCommand_37 rfl ?_
          refine tb_iload_1 d_Tx_isCommand_38 rfl ?_
          refine tb_callVr c_Tx_27 d_Tx_isCommand_39 rfl rfl rfl (by decide) (by first | exact k1) (ok_Tx_plain hG hS hT (show 2 * j ≤ 60 by omega) d) ?_
          refine tb_ireturn d_Tx_isCommand_42 rfl (by exact bI_nar _) ?_
          rw [hend hno] at hQ
          exact hQ
        · refine tb_iinc_1 (2) d_Tx_isCommand_31 rfl (by decide) (by decide) ?_
          refine tb_goto 2 d_Tx_isCommand_34 (by decide) ?_
          rw [show nI (2 * j) + 2 = nI (2 * (j + 1)) from nI_add (2 * j) 2]
          exact ih (n + 2 - 2 * (j + 1)) (by omega) (j + 1) rfl (by omega) (fun i h1 => by
            by_cases e : i = j
            · subst e; exact ⟨hlt, h17, h28⟩
            · exact hall i (by omega))
theorem ok_Tx_cmd (hG : tb_G E) (hS : Sh M) (hT : TxOk M t n) (d : Nat) : tb_Ret E m_Tx_isCommand (d + 4) [.inr (.inl t)] M (some (.inl (bI (cmdP (ta M t n) n)))) M := by
  obtain ⟨k1, r0, k2, l2⟩ := hS.tx hT.1
  have hI := hT.2.1
  have hn := hT.2.2.1
  refine tb_okOf hG (by decide) rfl (Nat.le_of_ble_eq_true rfl) rfl ?_
  refine tb_iconst (0) (by decide) d_Tx_isCommand_0 rfl ?_
  refine tb_istore_1 d_Tx_isCommand_1 rfl (by decide) ?_
  exact lp_Tx_cmd hG hS hT ⟨rfl, rfl⟩ (n + 2) 0 rfl (by omega) (fun i h => absurd h (Nat.not_lt_zero _))
end Text2
end
section
/-! Shelf. -/
theorem nI_mul6 (p : Nat) : nI p * 6 = nI (6 * p) := by
  rw [Nat.mul_comm]; exact (Int32.ofNat_mul p 6).symm
def tb_wI (M : tb_M) (I : Nat → Nat → Int32) : tb_M := (tb_n M, tb_u M, tb_K M, tb_Ln M, I, tb_R M, tb_J M)
/-- M' is M, but for the ints of the cells A -/
def On (M M' : tb_M) (A : Nat → Prop) : Prop := ∃ I, M' = tb_wI M I ∧ ∀ q, ¬ A q → I q = tb_I M q
theorem On.rf {M : tb_M} {A : Nat → Prop} : On M M A := ⟨tb_I M, rfl, fun _ _ => rfl⟩
theorem On.sI {M : tb_M} {A : Nat → Prop} {o k : Nat} {x : Int32} (h : A o) : On M (tb_sI M o k x) A := ⟨_, rfl, fun q hq => by
  unfold va_up
  rw [if_neg (fun e => hq (by rw [e]; exact h))]⟩
theorem On.trans {M M1 M2 : tb_M} {A : Nat → Prop} (h : On M M1 A) (h2 : On M1 M2 A) : On M M2 A := by
  obtain ⟨I, rfl, h3⟩ := h
  obtain ⟨I2, rfl, h4⟩ := h2
  exact ⟨I2, rfl, fun q hq => (h4 q hq).trans (h3 q hq)⟩
theorem On.mono {M M1 : tb_M} {A B : Nat → Prop} (h : On M M1 A) (hab : ∀ q, A q → B q) : On M M1 B := by
  obtain ⟨I, rfl, h3⟩ := h
  exact ⟨I, rfl, fun q hq => h3 q (fun z => hq (hab q z))⟩
theorem On.sh {M M1 : tb_M} {A : Nat → Prop} (h : On M M1 A) (hS : Sh M) : Sh M1 := by
  obtain ⟨I, rfl, h3⟩ := h
  exact hS
theorem On.i {M M1 : tb_M} {A : Nat → Prop} (h : On M M1 A) {q : Nat} (hq : ¬ A q) : tb_I M1 q = tb_I M q := by
  obtain ⟨I, rfl, h3⟩ := h
  exact h3 q hq
theorem On.r {M M1 : tb_M} {A : Nat → Prop} (h : On M M1 A) : tb_R M1 = tb_R M := by
  obtain ⟨I, rfl, h3⟩ := h
  rfl
theorem sI_at (M : tb_M) (o k : Nat) (x : Int32) : tb_I (tb_sI M o k x) o = va_up (tb_I M o) k x := by
  show va_up (tb_I M) o _ o = _
  unfold va_up
  rw [if_pos rfl]
theorem sI_of (M : tb_M) {o q : Nat} (k : Nat) (x : Int32) (h : q ≠ o) : tb_I (tb_sI M o k x) q = tb_I M q := by
  show va_up (tb_I M) o _ q = _
  unfold va_up
  rw [if_neg h]
def ShOk (M : tb_M) (s : Nat) : Prop := gK s = 4 ∧ (∀ p, p < gL (s + 1) → tb_I M (s + 1) p = -1 ∨ ∃ n, n ≤ 6 ∧ tb_I M (s + 1) p = nI n) ∧ ∀ i, i < gL (s + 2) → narrow .short (.int (tb_I M (s + 2) i)) = .int (tb_I M (s + 2) i)
/-- what stands at the place p of the shelf s -/
def pl (M : tb_M) (s p : Nat) : Option (List Int32) := if tb_I M (s + 1) p = -1 then none else some ((List.range (tb_I M (s + 1) p).toNatClampNeg).map (fun i => tb_I M (s + 2) (6 * p + i)))
def ln (v : Option (List Int32)) : Nat := (v.getD []).length
theorem nI_nm1 {n : Nat} (h : n < 2 ^ 31) : ¬ nI n = -1 := fun q => by
  have h1 := nI_toInt h
  rw [q] at h1
  have h2 : (-1 : Int32).toInt = -1 := by decide
  omega
theorem pl_none {M : tb_M} {s p : Nat} (h : tb_I M (s + 1) p = -1) : pl M s p = none := by unfold pl; rw [if_pos h]
theorem pl_ne {M : tb_M} {s p : Nat} (h : ¬ tb_I M (s + 1) p = -1) : pl M s p ≠ none := by unfold pl; rw [if_neg h]; exact fun q => by cases q
theorem pl_some {M : tb_M} {s p n : Nat} (hn : n ≤ 6) (h : tb_I M (s + 1) p = nI n) : pl M s p = some ((List.range n).map (fun i => tb_I M (s + 2) (6 * p + i))) := by
  unfold pl
  rw [h, if_neg (nI_nm1 (by omega)), nI_clamp (by omega)]
theorem pl_cases {M : tb_M} {s p : Nat} (h : ShOk M s) (hp : p < gL (s + 1)) : (tb_I M (s + 1) p = -1 ∧ pl M s p = none) ∨ ∃ n, n ≤ 6 ∧ tb_I M (s + 1) p = nI n ∧ pl M s p = some ((List.range n).map (fun i => tb_I M (s + 2) (6 * p + i))) := by
  rcases h.2.1 p hp with h1 | ⟨n, hn, h1⟩
  · exact Or.inl ⟨h1, pl_none h1⟩
  · exact Or.inr ⟨n, hn, h1, pl_some hn h1⟩
theorem pl_eq {M M' : tb_M} {s s' p p' : Nat} (h1 : tb_I M (s + 1) p = tb_I M' (s' + 1) p') (h2 : ∀ i, i < 6 → tb_I M (s + 2) (6 * p + i) = tb_I M' (s' + 2) (6 * p' + i)) (hb : tb_I M (s + 1) p = -1 ∨ ∃ n, n ≤ 6 ∧ tb_I M (s + 1) p = nI n) : pl M s p = pl M' s' p' := by
  rcases hb with h | ⟨n, hn, h⟩
  · rw [pl_none h, pl_none (h1 ▸ h)]
  · rw [pl_some hn h, pl_some hn (h1 ▸ h)]
    congr 1
    apply List.map_congr_left
    intro i hi
    exact h2 i (by have := List.mem_range.mp hi; omega)
theorem Sh.sh {M : tb_M} (h : Sh M) {s : Nat} (hs : gK s = 4) : tb_K M s = 4 ∧ tb_R M s 0 = s + 1 ∧ tb_R M s 1 = s + 2 ∧ tb_K M (s + 1) = 100 ∧ tb_K M (s + 2) = 101 ∧ tb_Ln M (s + 1) = gL (s + 1) ∧ tb_Ln M (s + 2) = 6 * gL (s + 1) ∧ 12 ≤ gL (s + 1) ∧ gL (s + 1) ≤ 13 := by
  have h1 := gK_sh s (gK_lt (by omega)) hs
  exact ⟨h.k hs, (h.2.2.2.2.1 s hs).1, (h.2.2.2.2.1 s hs).2, h.k h1.1, h.k h1.2.1, h.l rfl, (h.l rfl).trans h1.2.2.2.2, h1.2.2.1, h1.2.2.2.1⟩
section Shelf
variable {E : tb_E} {M : tb_M} {s p : Nat}
theorem ok_Sh_isThere (hG : tb_G E) (hS : Sh M) (hT : ShOk M s) (hp : p < gL (s + 1)) (d : Nat) : tb_Ret E m_Sh_isThere d [.inr (.inl s), .inl (nI p)] M (some (.inl (bI (pl M s p ≠ none)))) M := by
  obtain ⟨k1, r0, r1, k2, k3, l2, l3, b1, b2⟩ := hS.sh hT.1
  refine tb_okOf hG (by decide) rfl (Nat.le_of_ble_eq_true rfl) rfl ?_
  refine tb_aload_0 d_Sh_isThere_0 rfl ?_
  refine g_Sh_9 d_Sh_isThere_1 rfl rfl (by first | exact k1 | exact k2 | exact k3) ?_
  refine tb_topR r0 ?_
  refine tb_iload_1 d_Sh_isThere_4 rfl ?_
  refine tb_iaload d_Sh_isThere_5 rfl (by first | exact k1 | exact k2 | exact k3) (by first | (rw [l2]; exact vp_in_nI (by omega) (by omega)) | (rw [l3]; exact vp_in_nI (by omega) (by omega))) ?_
  refine tb_topI (y := tb_I M (s + 1) p) (by rw [nI_clamp (show p < 2 ^ 31 by omega)]) ?_
  refine tb_iconst (-1) (by decide) d_Sh_isThere_6 rfl ?_
  refine tb_icmp_eq 14 d_Sh_isThere_7 (by decide) rfl (fun h7 => ?_) (fun h7 => ?_)
  · have hfin : bI (pl M s p ≠ none) = 0 := bI_f (fun q => q (pl_none h7))
    refine tb_iconst (0) (by decide) d_Sh_isThere_14 rfl ?_
    refine tb_ireturn d_Sh_isThere_15 rfl (by first | rfl | assumption) ?_
    exact ⟨by rw [hfin], rfl⟩
  · have hfin : bI (pl M s p ≠ none) = 1 := bI_t (pl_ne h7)
    refine tb_iconst (1) (by decide) d_Sh_isThere_10 rfl ?_
    refine tb_goto 15 d_Sh_isThere_11 (by decide) ?_
    refine tb_ireturn d_Sh_isThere_15 rfl (by first | rfl | assumption) ?_
    exact ⟨by rw [hfin], rfl⟩
theorem ok_Sh_length (hG : tb_G E) (hS : Sh M) (hT : ShOk M s) (hp : p < gL (s + 1)) (d : Nat) : tb_Ret E m_Sh_length d [.inr (.inl s), .inl (nI p)] M (some (.inl (nI (ln (pl M s p))))) M := by
  obtain ⟨k1, r0, r1, k2, k3, l2, l3, b1, b2⟩ := hS.sh hT.1
  have hc := pl_cases hT hp
  refine tb_okOf hG (by decide) rfl (Nat.le_of_ble_eq_true rfl) rfl ?_
  refine tb_aload_0 d_Sh_length_0 rfl ?_
  refine g_Sh_9 d_Sh_length_1 rfl rfl (by first | exact k1 | exact k2 | exact k3) ?_
  refine tb_topR r0 ?_
  refine tb_iload_1 d_Sh_length_4 rfl ?_
  refine tb_iaload d_Sh_length_5 rfl (by first | exact k1 | exact k2 | exact k3) (by first | (rw [l2]; exact vp_in_nI (by omega) (by omega)) | (rw [l3]; exact vp_in_nI (by omega) (by omega))) ?_
  refine tb_topI (y := tb_I M (s + 1) p) (by rw [nI_clamp (show p < 2 ^ 31 by omega)]) ?_
  refine tb_if_ge 13 d_Sh_length_6 (by decide) rfl (fun h6 => ?_) (fun h6 => ?_)
  · have hfin : tb_I M (s + 1) p = nI (ln (pl M s p)) := by
      rcases hc with h | ⟨n, hn, h, h2⟩
      · rw [h.1] at h6; exact absurd h6 (by decide)
      · rw [h2, h]; simp [ln]
    refine tb_aload_0 d_Sh_length_13 rfl ?_
    refine g_Sh_9 d_Sh_length_14 rfl rfl (by first | exact k1 | exact k2 | exact k3) ?_
    refine tb_topR r0 ?_
    refine tb_iload_1 d_Sh_length_17 rfl ?_
    refine tb_iaload d_Sh_length_18 rfl (by first | exact k1 | exact k2 | exact k3) (by first | (rw [l2]; exact vp_in_nI (by omega) (by omega)) | (rw [l3]; exact vp_in_nI (by omega) (by omega))) ?_
    refine tb_topI (y := tb_I M (s + 1) p) (by rw [nI_clamp (show p < 2 ^ 31 by omega)]) ?_
    refine tb_ireturn d_Sh_length_19 rfl (by first | rfl | assumption) ?_
    exact ⟨by rw [hfin], rfl⟩
  · have hfin : (0 : Int32) = nI (ln (pl M s p)) := by
      rcases hc with h | ⟨n, hn, h, h2⟩
      · rw [h.2]; rfl
      · rw [h] at h6; exact absurd (nI_pos' (show n < 2 ^ 31 by omega)) h6
    refine tb_iconst (0) (by decide) d_Sh_length_9 rfl ?_
    refine tb_goto 19 d_Sh_length_10 (by decide) ?_
    refine tb_ireturn d_Sh_length_19 rfl (by first | rfl | assumption) ?_
    exact ⟨by rw [hfin], rfl⟩
theorem ok_Sh_at (hG : tb_G E) (hS : Sh M) (hT : ShOk M s) (hp : p < gL (s + 1)) {i : Nat} (hi : i < 6) (d : Nat) : tb_Ret E m_Sh_at d [.inr (.inl s), .inl (nI p), .inl (nI i)] M (some (.inl (tb_I M (s + 2) (6 * p + i)))) M := by
  obtain ⟨k1, r0, r1, k2, k3, l2, l3, b1, b2⟩ := hS.sh hT.1
  refine tb_okOf hG (by decide) rfl (Nat.le_of_ble_eq_true rfl) rfl ?_
  refine tb_aload_0 d_Sh_at_0 rfl ?_
  refine g_Sh_15 d_Sh_at_1 rfl rfl (by first | exact k1 | exact k2 | exact k3) ?_
  refine tb_topR r1 ?_
  refine tb_iload_1 d_Sh_at_4 rfl ?_
  refine tb_bipush (6) (by decide) d_Sh_at_5 rfl ?_
  refine tb_imul d_Sh_at_7 rfl ?_
  rw [nI_mul6]
  refine tb_iload_2 d_Sh_at_8 rfl ?_
  refine tb_iadd d_Sh_at_9 rfl ?_
  rw [nI_add]
  refine tb_saload d_Sh_at_10 rfl (by first | exact k1 | exact k2 | exact k3) (by first | (rw [l2]; exact vp_in_nI (by omega) (by omega)) | (rw [l3]; exact vp_in_nI (by omega) (by omega))) ?_
  refine tb_topI (y := tb_I M (s + 2) (6 * p + i)) (by rw [nI_clamp (show 6 * p + i < 2 ^ 31 by omega)]) ?_
  refine tb_ireturn d_Sh_at_11 rfl (by exact hT.2.2 _ (by rw [(gK_sh s (gK_lt (by rw [hT.1]; decide)) hT.1).2.2.2.2]; omega)) ?_
  exact ⟨rfl, rfl⟩
theorem ok_Sh_takeAway (hG : tb_G E) (hS : Sh M) (hT : ShOk M s) (hp : p < gL (s + 1)) (d : Nat) : tb_Ret E m_Sh_takeAway d [.inr (.inl s), .inl (nI p)] M none (tb_sI M (s + 1) p (-1)) := by
  obtain ⟨k1, r0, r1, k2, k3, l2, l3, b1, b2⟩ := hS.sh hT.1
  refine tb_okOf hG (by decide) rfl (Nat.le_of_ble_eq_true rfl) rfl ?_
  refine tb_aload_0 d_Sh_takeAway_0 rfl ?_
  refine g_Sh_9 d_Sh_takeAway_1 rfl rfl (by first | exact k1 | exact k2 | exact k3) ?_
  refine tb_topR r0 ?_
  refine tb_iload_1 d_Sh_takeAway_4 rfl ?_
  refine tb_iconst (-1) (by decide) d_Sh_takeAway_5 rfl ?_
  refine tb_iastore d_Sh_takeAway_6 rfl (by first | exact k1 | exact k2 | exact k3) (by first | (rw [l2]; exact vp_in_nI (by omega) (by omega)) | (rw [l3]; exact vp_in_nI (by omega) (by omega))) ?_
  rw [nI_clamp (show p < 2 ^ 31 by omega)]
  refine tb_vreturn d_Sh_takeAway_7 rfl ?_
  exact ⟨rfl, rfl⟩
theorem ok_Sh_makeEmpty (hG : tb_G E) (hS : Sh M) (hT : ShOk M s) (hp : p < gL (s + 1)) (d : Nat) : tb_Ret E m_Sh_makeEmpty d [.inr (.inl s), .inl (nI p)] M none (tb_sI M (s + 1) p 0) := by
  obtain ⟨k1, r0, r1, k2, k3, l2, l3, b1, b2⟩ := hS.sh hT.1
  refine tb_okOf hG (by decide) rfl (Nat.le_of_ble_eq_true rfl) rfl ?_
  refine tb_aload_0 d_Sh_makeEmpty_0 rfl ?_
  refine g_Sh_9 d_Sh_makeEmpty_1 rfl rfl (by first | exact k1 | exact k2 | exact k3) ?_
  refine tb_topR r0 ?_
  refine tb_iload_1 d_Sh_makeEmpty_4 rfl ?_
  refine tb_iconst (0) (by decide) d_Sh_makeEmpty_5 rfl ?_
  refine tb_iastore d_Sh_makeEmpty_6 rfl (by first | exact k1 | exact k2 | exact k3) (by first | (rw [l2]; exact vp_in_nI (by omega) (by omega)) | (rw [l3]; exact vp_in_nI (by omega) (by omega))) ?_
  rw [nI_clamp (show p < 2 ^ 31 by omega)]
  refine tb_vreturn d_Sh_makeEmpty_7 rfl ?_
  exact ⟨rfl, rfl⟩
theorem ok_Sh_append0 (hG : tb_G E) (hS : Sh M) (hT : ShOk M s) (hp : p < gL (s + 1)) {x : Int32} (hf : ln (pl M s p) = 6) (d : Nat) : tb_Ret E m_Sh_append (d + 1) [.inr (.inl s), .inl (nI p), .inl x] M (some (.inl 0)) M := by
  obtain ⟨k1, r0, r1, k2, k3, l2, l3, b1, b2⟩ := hS.sh hT.1
  refine tb_okOf hG (by decide) rfl (Nat.le_of_ble_eq_true rfl) rfl ?_
  refine tb_aload_0 d_Sh_append_0 rfl ?_
  refine tb_iload_1 d_Sh_append_1 rfl ?_
  refine tb_callVr c_Sh_19 d_Sh_append_2 rfl rfl rfl (by decide) (by first | exact k1 | exact k2 | exact k3) (ok_Sh_length hG hS hT hp d) ?_
  rw [hf]
  refine tb_istore_3 d_Sh_append_5 rfl (by decide) ?_
  refine tb_iload_3 d_Sh_append_6 rfl ?_
  refine tb_bipush (6) (by decide) d_Sh_append_7 rfl ?_
  refine tb_icmp_lt 14 d_Sh_append_9 (by decide) rfl (fun h9 => ?_) (fun h9 => ?_)
  · exact absurd h9 (by decide)
  · refine tb_iconst (0) (by decide) d_Sh_append_12 rfl ?_
    refine tb_ireturn d_Sh_append_13 rfl (by first | rfl | assumption) ?_
    exact ⟨rfl, rfl⟩
theorem ok_Sh_append1 (hG : tb_G E) (hS : Sh M) (hT : ShOk M s) (hp : p < gL (s + 1)) {x : Int32} (hf : ln (pl M s p) < 6) (d : Nat) : tb_Ret E m_Sh_append (d + 1) [.inr (.inl s), .inl (nI p), .inl x] M (some (.inl 1)) (tb_sI (tb_sI M (s + 2) (6 * p + ln (pl M s p)) (vp_nar .short x)) (s + 1) p (nI (ln (pl M s p) + 1))) := by
  obtain ⟨k1, r0, r1, k2, k3, l2, l3, b1, b2⟩ := hS.sh hT.1
  refine tb_okOf hG (by decide) rfl (Nat.le_of_ble_eq_true rfl) rfl ?_
  refine tb_aload_0 d_Sh_append_0 rfl ?_
  refine tb_iload_1 d_Sh_append_1 rfl ?_
  refine tb_callVr c_Sh_19 d_Sh_append_2 rfl rfl rfl (by decide) (by first | exact k1 | exact k2 | exact k3) (ok_Sh_length hG hS hT hp d) ?_
  refine tb_istore_3 d_Sh_append_5 rfl (by decide) ?_
  refine tb_iload_3 d_Sh_append_6 rfl ?_
  refine tb_bipush (6) (by decide) d_Sh_append_7 rfl ?_
  refine tb_icmp_lt 14 d_Sh_append_9 (by decide) rfl (fun h9 => ?_) (fun h9 => ?_)
  · refine tb_aload_0 d_Sh_append_14 rfl ?_
    refine g_Sh_15 d_Sh_append_15 rfl rfl (by first | exact k1 | exact k2 | exact k3) ?_
    refine tb_topR r1 ?_
    refine tb_iload_1 d_Sh_append_18 rfl ?_
    refine tb_bipush (6) (by decide) d_Sh_append_19 rfl ?_
    refine tb_imul d_Sh_append_21 rfl ?_
    rw [nI_mul6]
    refine tb_iload_3 d_Sh_append_22 rfl ?_
    refine tb_iadd d_Sh_append_23 rfl ?_
    rw [nI_add]
    refine tb_iload_2 d_Sh_append_24 rfl ?_
    refine tb_sastore d_Sh_append_25 rfl (by first | exact k1 | exact k2 | exact k3) (by first | (rw [l2]; exact vp_in_nI (by omega) (by omega)) | (rw [l3]; exact vp_in_nI (by omega) (by omega))) ?_
    rw [nI_clamp (show 6 * p + ln (pl M s p) < 2 ^ 31 by omega)]
    refine tb_aload_0 d_Sh_append_26 rfl ?_
    refine g_Sh_9 d_Sh_append_27 rfl rfl (by first | exact k1 | exact k2 | exact k3) ?_
    refine tb_topR r0 ?_
    refine tb_iload_1 d_Sh_append_30 rfl ?_
    refine tb_iload_3 d_Sh_append_31 rfl ?_
    refine tb_iconst (1) (by decide) d_Sh_append_32 rfl ?_
    refine tb_iadd d_Sh_append_33 rfl ?_
    rw [nI_1]
    refine tb_iastore d_Sh_append_34 rfl (by first | exact k1 | exact k2 | exact k3) (by show vp_in _ (tb_Ln M (s + 1)); rw [l2]; exact vp_in_nI (by omega) (by omega)) ?_
    rw [nI_clamp (show p < 2 ^ 31 by omega)]
    refine tb_iconst (1) (by decide) d_Sh_append_35 rfl ?_
    refine tb_ireturn d_Sh_append_36 rfl (by first | rfl | assumption) ?_
    exact ⟨rfl, rfl⟩
  · exact absurd (nI_lt hf (by decide)) h9
end Shelf
end
section
/-! Shelf: one place becomes another, all places, are they the same, which are there. -/
theorem nar_sh {x : Int32} (h : narrow .short (.int x) = .int x) : vp_nar .short x = x := by unfold vp_nar; rw [h]
abbrev A2 (s : Nat) : Nat → Prop := fun z => z = s + 1 ∨ z = s + 2
theorem sh_ne {s o : Nat} (hs : gK s = 4) (ho : gK o = 4) (hne : s ≠ o) : ¬ A2 s (o + 1) ∧ ¬ A2 s (o + 2) ∧ ¬ A2 s s ∧ ¬ A2 s o := by
  have h1 := gK_sh s (gK_lt (by omega)) hs
  have h2 := gK_sh o (gK_lt (by omega)) ho
  refine ⟨fun z => ?_, fun z => ?_, fun z => ?_, fun z => ?_⟩
  · rcases z with z | z
    · omega
    · have := h2.1; rw [z, h1.2.1] at this; cases this
  · rcases z with z | z
    · have := h2.2.1; rw [z, h1.1] at this; cases this
    · omega
  · rcases z with z | z <;> omega
  · rcases z with z | z
    · have := h1.1; rw [← z, ho] at this; cases this
    · have := h1.2.1; rw [← z, ho] at this; cases this
def BecAt (M M1 : tb_M) (s p o q j : Nat) : Prop := On M M1 (A2 s) ∧ tb_I M1 (s + 1) = va_up (tb_I M (s + 1)) p (tb_I M (o + 1) q) ∧ tb_I M1 (s + 2) = fun k => if 6 * p ≤ k ∧ k < 6 * p + j then tb_I M (o + 2) (6 * q + (k - 6 * p)) else tb_I M (s + 2) k
theorem BecAt.step {M M1 : tb_M} {s p o q j : Nat} (h : BecAt M M1 s p o q j) : BecAt M (tb_sI M1 (s + 2) (6 * p + j) (tb_I M (o + 2) (6 * q + j))) s p o q (j + 1) := by
  obtain ⟨h1, h2, h3⟩ := h
  refine ⟨h1.trans (On.sI (Or.inr rfl)), ?_, ?_⟩
  · rw [sI_of _ _ _ (by omega)]; exact h2
  · rw [sI_at, h3]
    funext k
    unfold va_up
    dsimp only
    by_cases e : k = 6 * p + j
    · subst e
      rw [if_pos rfl, if_pos ⟨by omega, by omega⟩, show 6 * p + j - 6 * p = j by omega]
    · rw [if_neg e]
      by_cases e2 : 6 * p ≤ k ∧ k < 6 * p + j
      · rw [if_pos e2, if_pos ⟨e2.1, by omega⟩]
      · rw [if_neg e2, if_neg (fun z => e2 ⟨z.1, by omega⟩)]
theorem BecAt.zero {M : tb_M} {s p o q : Nat} : BecAt M (tb_sI M (s + 1) p (tb_I M (o + 1) q)) s p o q 0 := by
  refine ⟨On.sI (Or.inl rfl), sI_at _ _ _ _, ?_⟩
  rw [sI_of _ _ _ (by omega)]
  funext k
  rw [if_neg (by omega)]
/-- what becoming comes to -/
def BecP (M M1 : tb_M) (s p o q : Nat) : Prop := On M M1 (A2 s) ∧ ShOk M1 s ∧ pl M1 s p = pl M o q ∧ ∀ p', p' ≠ p → p' < gL (s + 1) → pl M1 s p' = pl M s p'
theorem BecAt.fin {M M1 : tb_M} {s p o q j : Nat} (hT : ShOk M s) (hO : ShOk M o) (hp : p < gL (s + 1)) (hq : q < gL (o + 1)) (h : BecAt M M1 s p o q j) (hj : j ≤ 6) (hv : tb_I M (o + 1) q = -1 ∨ tb_I M (o + 1) q = nI j) : BecP M M1 s p o q := by
  obtain ⟨h1, h2, h3⟩ := h
  have g1 := gK_sh s (gK_lt (by rw [hT.1]; decide)) hT.1
  have g2 := gK_sh o (gK_lt (by rw [hO.1]; decide)) hO.1
  have hl : tb_I M1 (s + 1) p = tb_I M (o + 1) q := by rw [h2]; simp [va_up]
  have hl' : ∀ p', p' ≠ p → tb_I M1 (s + 1) p' = tb_I M (s + 1) p' := fun p' hne => by rw [h2]; simp [va_up, hne]
  have h3' : ∀ k, tb_I M1 (s + 2) k = if 6 * p ≤ k ∧ k < 6 * p + j then tb_I M (o + 2) (6 * q + (k - 6 * p)) else tb_I M (s + 2) k := fun k => congrFun h3 k
  refine ⟨h1, ⟨hT.1, fun p' hp' => ?_, fun i hi => ?_⟩, ?_, fun p' hne hp' => ?_⟩
  · by_cases e : p' = p
    · subst e; rw [hl]; exact hO.2.1 q hq
    · rw [hl' p' e]; exact hT.2.1 p' hp'
  · rw [h3' i]
    by_cases e : 6 * p ≤ i ∧ i < 6 * p + j
    · rw [if_pos e]; exact hO.2.2 _ (by rw [g2.2.2.2.2]; omega)
    · rw [if_neg e]; exact hT.2.2 i hi
  · rcases hv with hv | hv
    · rw [pl_none hv, pl_none (hl.trans hv)]
    · rw [pl_some hj hv, pl_some hj (hl.trans hv)]
      congr 1
      apply List.map_congr_left
      intro i hi
      have hi' := List.mem_range.mp hi
      rw [h3' (6 * p + i), if_pos ⟨by omega, by omega⟩, show 6 * p + i - 6 * p = i by omega]
  · refine pl_eq (hl' p' hne) (fun i hi => ?_) (by rw [hl' p' hne]; exact hT.2.1 p' hp')
    rw [h3' (6 * p' + i), if_neg (by omega)]
section Shelf2
variable {E : tb_E} {M : tb_M} {s p o q : Nat}
theorem lp_Sh_become (hS : Sh M) (hT : ShOk M s) (hO : ShOk M o) (hne : s ≠ o) (hp : p < gL (s + 1)) (hq : q < gL (o + 1)) {n : Nat} (hn : n ≤ 6) (hv : tb_I M (o + 1) q = nI n) {d rc rs : Nat} {Q : tb_O → tb_M → Prop} (hQ : ∀ M1, BecAt M M1 s p o q n → Q (.inl none) M1) : ∀ (m j : Nat), n - j = m → j ≤ n → ∀ M1, BecAt M M1 s p o q j → tb_Wp E m_Sh_become d rc rs 15 [some (.inr s), some (.inl (nI p)), some (.inr o), some (.inl (nI q)), some (.inl (nI j))] [] M1 Q := by
  intro m
  induction m using Nat.strongRecOn with
  | ind m ih =>
    intro j hm hj M1 hB
    have hS1 := hB.1.sh hS
    obtain ⟨k1, r0, r1, k2, k3, l2, l3, b1, b2⟩ := hS1.sh hT.1
    obtain ⟨k4, r2, r3, k5, k6, l5, l6, b3, b4⟩ := hS1.sh hO.1
    obtain ⟨a1, a2, a3, a4⟩ := sh_ne hT.1 hO.1 hne
    have g2 := gK_sh o (gK_lt (by rw [hO.1]; decide)) hO.1
    have hlen : tb_I M1 (s + 1) p = nI n := by rw [hB.2.1]; simp [va_up, hv]
    refine tb_iload_4 d_Sh_become_15 rfl ?_
    refine tb_aload_0 d_Sh_become_17 rfl ?_
    refine g_Sh_9 d_Sh_become_18 rfl rfl (by first | exact k1 | exact k2 | exact k3 | exact k4 | exact k5 | exact k6) ?_
    refine tb_topR r0 ?_
    refine tb_iload_1 d_Sh_become_21 rfl ?_
    refine tb_iaload d_Sh_become_22 rfl (by first | exact k1 | exact k2 | exact k3 | exact k4 | exact k5 | exact k6) (by first | (rw [l2]; exact vp_in_nI (by omega) (by omega)) | (rw [l3]; exact vp_in_nI (by omega) (by omega)) | (rw [l5]; exact vp_in_nI (by omega) (by omega)) | (rw [l6]; exact vp_in_nI (by omega) (by omega))) ?_
    refine tb_topI (y := nI n) (by rw [nI_clamp (show p < 2 ^ 31 by omega)]; exact hlen) ?_
    refine tb_icmp_ge 56 d_Sh_become_23 (by decide) rfl (fun h23 => ?_) (fun h23 => ?_)
    · have hje : j = n := by have := (nI_leI (a := n) (b := j) (by omega) (by omega)).mp h23; omega
      subst hje
      refine tb_vreturn d_Sh_become_56 rfl ?_
      exact hQ M1 hB
    · have hlt : j < n := by
        have : ¬ n ≤ j := fun q => h23 ((nI_leI (a := n) (b := j) (by omega) (by omega)).mpr q)
        omega
      refine tb_aload_0 d_Sh_become_26 rfl ?_
      refine g_Sh_15 d_Sh_become_27 rfl rfl (by first | exact k1 | exact k2 | exact k3 | exact k4 | exact k5 | exact k6) ?_
      refine tb_topR r1 ?_
      refine tb_iload_1 d_Sh_become_30 rfl ?_
      refine tb_bipush (6) (by decide) d_Sh_become_31 rfl ?_
      refine tb_imul d_Sh_become_33 rfl ?_
      rw [nI_mul6]
      refine tb_iload_4 d_Sh_become_34 rfl ?_
      refine tb_iadd d_Sh_become_36 rfl ?_
      rw [nI_add]
      refine tb_aload_2 d_Sh_become_37 rfl ?_
      refine g_Sh_15 d_Sh_become_38 rfl rfl (by first | exact k1 | exact k2 | exact k3 | exact k4 | exact k5 | exact k6) ?_
      refine tb_topR r3 ?_
      refine tb_iload_3 d_Sh_become_41 rfl ?_
      refine tb_bipush (6) (by decide) d_Sh_become_42 rfl ?_
      refine tb_imul d_Sh_become_44 rfl ?_
      rw [nI_mul6]
      refine tb_iload_4 d_Sh_become_45 rfl ?_
      refine tb_iadd d_Sh_become_47 rfl ?_
      rw [nI_add]
      refine tb_saload d_Sh_become_48 rfl (by first | exact k1 | exact k2 | exact k3 | exact k4 | exact k5 | exact k6) (by first | (rw [l2]; exact vp_in_nI (by omega) (by omega)) | (rw [l3]; exact vp_in_nI (by omega) (by omega)) | (rw [l5]; exact vp_in_nI (by omega) (by omega)) | (rw [l6]; exact vp_in_nI (by omega) (by omega))) ?_
      refine tb_topI (y := tb_I M (o + 2) (6 * q + j)) (by rw [nI_clamp (show 6 * q + j < 2 ^ 31 by omega)]; exact congrFun (hB.1.i a2) _) ?_
      refine tb_sastore d_Sh_become_49 rfl (by first | exact k1 | exact k2 | exact k3 | exact k4 | exact k5 | exact k6) (by first | (rw [l2]; exact vp_in_nI (by omega) (by omega)) | (rw [l3]; exact vp_in_nI (by omega) (by omega)) | (rw [l5]; exact vp_in_nI (by omega) (by omega)) | (rw [l6]; exact vp_in_nI (by omega) (by omega))) ?_
      rw [nI_clamp (show 6 * p + j < 2 ^ 31 by omega)]
      rw [nar_sh (hO.2.2 (6 * q + j) (by rw [g2.2.2.2.2]; omega))]
      refine tb_iinc_4 (1) d_Sh_become_50 rfl (by decide) (by decide) ?_
      refine tb_goto 15 d_Sh_become_53 (by decide) ?_
      rw [nI_1]
      exact ih (n - (j + 1)) (by omega) (j + 1) rfl (by omega) _ hB.step
theorem ok_Sh_become (hG : tb_G E) (hS : Sh M) (hT : ShOk M s) (hO : ShOk M o) (hne : s ≠ o) (hp : p < gL (s + 1)) (hq : q < gL (o + 1)) (d : Nat) : tb_Rel E m_Sh_become d [.inr (.inl s), .inl (nI p), .inr (.inl o), .inl (nI q)] M (fun v M1 => v = none ∧ BecP M M1 s p o q) := by
  obtain ⟨k1, r0, r1, k2, k3, l2, l3, b1, b2⟩ := hS.sh hT.1
  obtain ⟨k4, r2, r3, k5, k6, l5, l6, b3, b4⟩ := hS.sh hO.1
  obtain ⟨a1, a2, a3, a4⟩ := sh_ne hT.1 hO.1 hne
  refine tb_okOf hG (by decide) rfl (Nat.le_of_ble_eq_true rfl) rfl ?_
  refine tb_aload_0 d_Sh_become_0 rfl ?_
  refine g_Sh_9 d_Sh_become_1 rfl rfl (by first | exact k1 | exact k2 | exact k3 | exact k4 | exact k5 | exact k6) ?_
  refine tb_topR r0 ?_
  refine tb_iload_1 d_Sh_become_4 rfl ?_
  refine tb_aload_2 d_Sh_become_5 rfl ?_
  refine g_Sh_9 d_Sh_become_6 rfl rfl (by first | exact k1 | exact k2 | exact k3 | exact k4 | exact k5 | exact k6) ?_
  refine tb_topR r2 ?_
  refine tb_iload_3 d_Sh_become_9 rfl ?_
  refine tb_iaload d_Sh_become_10 rfl (by first | exact k1 | exact k2 | exact k3 | exact k4 | exact k5 | exact k6) (by first | (rw [l2]; exact vp_in_nI (by omega) (by omega)) | (rw [l3]; exact vp_in_nI (by omega) (by omega)) | (rw [l5]; exact vp_in_nI (by omega) (by omega)) | (rw [l6]; exact vp_in_nI (by omega) (by omega))) ?_
  refine tb_topI (y := tb_I M (o + 1) q) (by rw [nI_clamp (show q < 2 ^ 31 by omega)]) ?_
  refine tb_iastore d_Sh_become_11 rfl (by first | exact k1 | exact k2 | exact k3 | exact k4 | exact k5 | exact k6) (by first | (rw [l2]; exact vp_in_nI (by omega) (by omega)) | (rw [l3]; exact vp_in_nI (by omega) (by omega)) | (rw [l5]; exact vp_in_nI (by omega) (by omega)) | (rw [l6]; exact vp_in_nI (by omega) (by omega))) ?_
  rw [nI_clamp (show p < 2 ^ 31 by omega)]
  refine tb_iconst (0) (by decide) d_Sh_become_12 rfl ?_
  refine tb_istore_4 d_Sh_become_13 rfl (by decide) ?_
  rcases hO.2.1 q hq with hv | ⟨n, hn, hv⟩
  · have hB := BecAt.zero (M := M) (s := s) (p := p) (o := o) (q := q)
    have hlen : tb_I (tb_sI M (s + 1) p (tb_I M (o + 1) q)) (s + 1) p = -1 := by rw [hB.2.1]; simp [va_up, hv]
    refine tb_iload_4 d_Sh_become_15 rfl ?_
    refine tb_aload_0 d_Sh_become_17 rfl ?_
    refine g_Sh_9 d_Sh_become_18 rfl rfl (by first | exact k1 | exact k2 | exact k3 | exact k4 | exact k5 | exact k6) ?_
    refine tb_topR r0 ?_
    refine tb_iload_1 d_Sh_become_21 rfl ?_
    refine tb_iaload d_Sh_become_22 rfl (by first | exact k1 | exact k2 | exact k3 | exact k4 | exact k5 | exact k6) (by show vp_in _ (tb_Ln M (s + 1)); rw [l2]; exact vp_in_nI (by omega) (by omega)) ?_
    refine tb_topI (y := -1) (by rw [nI_clamp (show p < 2 ^ 31 by omega)]; exact hlen) ?_
    refine tb_icmp_ge 56 d_Sh_become_23 (by decide) rfl (fun h23 => ?_) (fun h23 => ?_)
    · refine tb_vreturn d_Sh_become_56 rfl ?_
      exact ⟨none, rfl, rfl, hB.fin hT hO hp hq (Nat.zero_le _) (Or.inl hv)⟩
    · exact absurd (by decide) h23
  · exact lp_Sh_become hS hT hO hne hp hq hn hv (fun M1 h => ⟨none, rfl, rfl, h.fin hT hO hp hq hn (Or.inr hv)⟩) n 0 rfl (Nat.zero_le _) _ BecAt.zero
def BecAll (M M1 : tb_M) (s o n : Nat) : Prop := On M M1 (A2 s) ∧ ShOk M1 s ∧ (∀ p, p < n → pl M1 s p = pl M o p) ∧ ∀ p, n ≤ p → p < gL (s + 1) → pl M1 s p = pl M s p
theorem pl_on {M M1 : tb_M} {A : Nat → Prop} (h : On M M1 A) {o : Nat} (h1 : ¬ A (o + 1)) (h2 : ¬ A (o + 2)) (p : Nat) : pl M1 o p = pl M o p := by
  unfold pl
  rw [h.i h1, h.i h2]
theorem ShOk.on {M M1 : tb_M} {A : Nat → Prop} (h : On M M1 A) {o : Nat} (h1 : ¬ A (o + 1)) (h2 : ¬ A (o + 2)) (hO : ShOk M o) : ShOk M1 o := by
  refine ⟨hO.1, ?_, ?_⟩
  · rw [h.i h1]; exact hO.2.1
  · rw [h.i h2]; exact hO.2.2
theorem lp_Sh_becomeAll (hG : tb_G E) (hS : Sh M) (hT : ShOk M s) (hO : ShOk M o) (hne : s ≠ o) {d rc rs : Nat} {Q : tb_O → tb_M → Prop} (hQ : ∀ M1, BecAll M M1 s o 12 → Q (.inl none) M1) : ∀ (m j : Nat), 12 - j = m → j ≤ 12 → ∀ M1, BecAll M M1 s o j → tb_Wp E m_Sh_becomeAll (d + 1) rc rs 2 [some (.inr s), some (.inr o), some (.inl (nI j))] [] M1 Q := by
  intro m
  induction m using Nat.strongRecOn with
  | ind m ih =>
    intro j hm hj M1 hB
    have hS1 := hB.1.sh hS
    obtain ⟨k1, r0, r1, k2, k3, l2, l3, b1, b2⟩ := hS1.sh hT.1
    obtain ⟨k4, r2, r3, k5, k6, l5, l6, b3, b4⟩ := hS1.sh hO.1
    obtain ⟨a1, a2, a3, a4⟩ := sh_ne hT.1 hO.1 hne
    have hO1 := hO.on hB.1 a1 a2
    refine tb_iload_2 d_Sh_becomeAll_2 rfl ?_
    refine tb_bipush (12) (by decide) d_Sh_becomeAll_3 rfl ?_
    refine tb_icmp_ge 21 d_Sh_becomeAll_5 (by decide) rfl (fun h5 => ?_) (fun h5 => ?_)
    · have hje : j = 12 := by have := (nI_leI (a := 12) (b := j) (by omega) (by omega)).mp h5; omega
      subst hje
      refine tb_vreturn d_Sh_becomeAll_21 rfl ?_
      exact hQ M1 hB
    · have hlt : j < 12 := by
        have : ¬ 12 ≤ j := fun q => h5 ((nI_leI (a := 12) (b := j) (by omega) (by omega)).mpr q)
        omega
      refine tb_aload_0 d_Sh_becomeAll_8 rfl ?_
      refine tb_iload_2 d_Sh_becomeAll_9 rfl ?_
      refine tb_aload_1 d_Sh_becomeAll_10 rfl ?_
      refine tb_iload_2 d_Sh_becomeAll_11 rfl ?_
      refine tb_callVq c_Sh_23 d_Sh_becomeAll_12 rfl rfl rfl (by decide) (by first | exact k1 | exact k2 | exact k3 | exact k4 | exact k5 | exact k6) (ok_Sh_become hG hS1 hB.2.1 hO1 hne (show j < gL (s + 1) by omega) (show j < gL (o + 1) by omega) d) (fun v M2 hP => ?_)
      obtain ⟨rfl, hP⟩ := hP
      refine tb_iinc_2 (1) d_Sh_becomeAll_15 rfl (by decide) (by decide) ?_
      refine tb_goto 2 d_Sh_becomeAll_18 (by decide) ?_
      rw [nI_1]
      refine ih (12 - (j + 1)) (by omega) (j + 1) rfl (by omega) M2 ⟨hB.1.trans hP.1, hP.2.1, fun p hp => ?_, fun p hp hp2 => ?_⟩
      · by_cases e : p = j
        · subst e
          rw [hP.2.2.1, pl_on hB.1 a1 a2]
        · rw [hP.2.2.2 p e (by omega)]
          exact hB.2.2.1 p (by omega)
      · rw [hP.2.2.2 p (by omega) hp2]
        exact hB.2.2.2 p (by omega) hp2
theorem ok_Sh_becomeAll (hG : tb_G E) (hS : Sh M) (hT : ShOk M s) (hO : ShOk M o) (hne : s ≠ o) (d : Nat) : tb_Rel E m_Sh_becomeAll (d + 1) [.inr (.inl s), .inr (.inl o)] M (fun v M1 => v = none ∧ BecAll M M1 s o 12) := by
  refine tb_okOf hG (by decide) rfl (Nat.le_of_ble_eq_true rfl) rfl ?_
  refine tb_iconst (0) (by decide) d_Sh_becomeAll_0 rfl ?_
  refine tb_istore_2 d_Sh_becomeAll_1 rfl (by decide) ?_
  exact lp_Sh_becomeAll hG hS hT hO hne (fun M1 h => ⟨none, rfl, rfl, h⟩) 12 0 rfl (by omega) M ⟨On.rf, hT, fun p hp => absurd hp (Nat.not_lt_zero _), fun p _ _ => rfl⟩
theorem lp_Sh_isSame (hS : Sh M) (hT : ShOk M s) (hO : ShOk M o) (hp : p < gL (s + 1)) (hq : q < gL (o + 1)) {n : Nat} (hn : n ≤ 6) (hv : tb_I M (s + 1) p = nI n) (hv2 : tb_I M (o + 1) q = nI n) {d rc rs : Nat} {Q : tb_O → tb_M → Prop} (hQ : Q (.inl (some (.inl (bI (pl M s p = pl M o q))))) M) : ∀ (m j : Nat), n - j = m → j ≤ n → (∀ i, i < j → tb_I M (s + 2) (6 * p + i) = tb_I M (o + 2) (6 * q + i)) → tb_Wp E m_Sh_isSame d rc rs 20 [some (.inr s), some (.inl (nI p)), some (.inr o), some (.inl (nI q)), some (.inl (nI j))] [] M Q := by
  obtain ⟨k1, r0, r1, k2, k3, l2, l3, b1, b2⟩ := hS.sh hT.1
  obtain ⟨k4, r2, r3, k5, k6, l5, l6, b3, b4⟩ := hS.sh hO.1
  intro m
  induction m using Nat.strongRecOn with
  | ind m ih =>
    intro j hm hj hall
    refine tb_iload_4 d_Sh_isSame_20 rfl ?_
    refine tb_aload_0 d_Sh_isSame_22 rfl ?_
    refine g_Sh_9 d_Sh_isSame_23 rfl rfl (by first | exact k1 | exact k2 | exact k3 | exact k4 | exact k5 | exact k6) ?_
    refine tb_topR r0 ?_
    refine tb_iload_1 d_Sh_isSame_26 rfl ?_
    refine tb_iaload d_Sh_isSame_27 rfl (by first | exact k1 | exact k2 | exact k3 | exact k4 | exact k5 | exact k6) (by first | (rw [l2]; exact vp_in_nI (by omega) (by omega)) | (rw [l3]; exact vp_in_nI (by omega) (by omega)) | (rw [l5]; exact vp_in_nI (by omega) (by omega)) | (rw [l6]; exact vp_in_nI (by omega) (by omega))) ?_
    refine tb_topI (y := nI n) (by rw [nI_clamp (show p < 2 ^ 31 by omega)]; exact hv) ?_
    refine tb_icmp_ge 66 d_Sh_isSame_28 (by decide) rfl (fun h28 => ?_) (fun h28 => ?_)
    · have hje : j = n := by have := (nI_leI (a := n) (b := j) (by omega) (by omega)).mp h28; omega
      subst hje
      refine tb_iconst (1) (by decide) d_Sh_isSame_66 rfl ?_
      refine tb_ireturn d_Sh_isSame_67 rfl (by first | rfl | assumption) ?_
      rw [bI_t ?_] at hQ
      · exact hQ
      · rw [pl_some hn hv, pl_some hn hv2]
        congr 1
        apply List.map_congr_left
        intro i hi
        exact hall i (List.mem_range.mp hi)
    · have hlt : j < n := by
        have : ¬ n ≤ j := fun q => h28 ((nI_leI (a := n) (b := j) (by omega) (by omega)).mpr q)
        omega
      refine tb_aload_0 d_Sh_isSame_31 rfl ?_
      refine g_Sh_15 d_Sh_isSame_32 rfl rfl (by first | exact k1 | exact k2 | exact k3 | exact k4 | exact k5 | exact k6) ?_
      refine tb_topR r1 ?_
      refine tb_iload_1 d_Sh_isSame_35 rfl ?_
      refine tb_bipush (6) (by decide) d_Sh_isSame_36 rfl ?_
      refine tb_imul d_Sh_isSame_38 rfl ?_
      rw [nI_mul6]
      refine tb_iload_4 d_Sh_isSame_39 rfl ?_
      refine tb_iadd d_Sh_isSame_41 rfl ?_
      rw [nI_add]
      refine tb_saload d_Sh_isSame_42 rfl (by first | exact k1 | exact k2 | exact k3 | exact k4 | exact k5 | exact k6) (by first | (rw [l2]; exact vp_in_nI (by omega) (by omega)) | (rw [l3]; exact vp_in_nI (by omega) (by omega)) | (rw [l5]; exact vp_in_nI (by omega) (by omega)) | (rw [l6]; exact vp_in_nI (by omega) (by omega))) ?_
      refine tb_topI (y := tb_I M (s + 2) (6 * p + j)) (by rw [nI_clamp (show 6 * p + j < 2 ^ 31 by omega)]) ?_
      refine tb_aload_2 d_Sh_isSame_43 rfl ?_
      refine g_Sh_15 d_Sh_isSame_44 rfl rfl (by first | exact k1 | exact k2 | exact k3 | exact k4 | exact k5 | exact k6) ?_
      refine tb_topR r3 ?_
      refine tb_iload_3 d_Sh_isSame_47 rfl ?_
      refine tb_bipush (6) (by decide) d_Sh_isSame_48 rfl ?_
      refine tb_imul d_Sh_isSame_50 rfl ?_
      rw [nI_mul6]
      refine tb_iload_4 d_Sh_isSame_51 rfl ?_
      refine tb_iadd d_Sh_isSame_53 rfl ?_
      rw [nI_add]
      refine tb_saload d_Sh_isSame_54 rfl (by first | exact k1 | exact k2 | exact k3 | exact k4 | exact k5 | exact k6) (by first | (rw [l2]; exact vp_in_nI (by omega) (by omega)) | (rw [l3]; exact vp_in_nI (by omega) (by omega)) | (rw [l5]; exact vp_in_nI (by omega) (by omega)) | (rw [l6]; exact vp_in_nI (by omega) (by omega))) ?_
      refine tb_topI (y := tb_I M (o + 2) (6 * q + j)) (by rw [nI_clamp (show 6 * q + j < 2 ^ 31 by omega)]) ?_
      refine tb_icmp_eq 60 d_Sh_isSame_55 (by decide) rfl (fun h55 => ?_) (fun h55 => ?_)
      · refine tb_iinc_4 (1) d_Sh_isSame_60 rfl (by decide) (by decide) ?_
        refine tb_goto 20 d_Sh_isSame_63 (by decide) ?_
        rw [nI_1]
        exact ih (n - (j + 1)) (by omega) (j + 1) rfl (by omega) (fun i hi => by
          by_cases e : i = j
          · subst e; exact h55
          · exact hall i (by omega))
      · refine tb_iconst (0) (by decide) d_Sh_isSame_58 rfl ?_
        refine tb_ireturn d_Sh_isSame_59 rfl (by first | rfl | assumption) ?_
        rw [bI_f (fun z => h55 ?_)] at hQ
        · exact hQ
        · rw [pl_some hn hv, pl_some hn hv2] at z
          have z2 := congrArg (fun l => l[j]?) (Option.some.inj z)
          simpa [hlt] using z2
theorem ok_Sh_isSame (hG : tb_G E) (hS : Sh M) (hT : ShOk M s) (hO : ShOk M o) (hp : p < gL (s + 1)) (hq : q < gL (o + 1)) (d : Nat) : tb_Ret E m_Sh_isSame d [.inr (.inl s), .inl (nI p), .inr (.inl o), .inl (nI q)] M (some (.inl (bI (pl M s p = pl M o q)))) M := by
  obtain ⟨k1, r0, r1, k2, k3, l2, l3, b1, b2⟩ := hS.sh hT.1
  obtain ⟨k4, r2, r3, k5, k6, l5, l6, b3, b4⟩ := hS.sh hO.1
  refine tb_okOf hG (by decide) rfl (Nat.le_of_ble_eq_true rfl) rfl ?_
  refine tb_aload_0 d_Sh_isSame_0 rfl ?_
  refine g_Sh_9 d_Sh_isSame_1 rfl rfl (by first | exact k1 | exact k2 | exact k3 | exact k4 | exact k5 | exact k6) ?_
  refine tb_topR r0 ?_
  refine tb_iload_1 d_Sh_isSame_4 rfl ?_
  refine tb_iaload d_Sh_isSame_5 rfl (by first | exact k1 | exact k2 | exact k3 | exact k4 | exact k5 | exact k6) (by first | (rw [l2]; exact vp_in_nI (by omega) (by omega)) | (rw [l3]; exact vp_in_nI (by omega) (by omega)) | (rw [l5]; exact vp_in_nI (by omega) (by omega)) | (rw [l6]; exact vp_in_nI (by omega) (by omega))) ?_
  refine tb_topI (y := tb_I M (s + 1) p) (by rw [nI_clamp (show p < 2 ^ 31 by omega)]) ?_
  refine tb_aload_2 d_Sh_isSame_6 rfl ?_
  refine g_Sh_9 d_Sh_isSame_7 rfl rfl (by first | exact k1 | exact k2 | exact k3 | exact k4 | exact k5 | exact k6) ?_
  refine tb_topR r2 ?_
  refine tb_iload_3 d_Sh_isSame_10 rfl ?_
  refine tb_iaload d_Sh_isSame_11 rfl (by first | exact k1 | exact k2 | exact k3 | exact k4 | exact k5 | exact k6) (by first | (rw [l2]; exact vp_in_nI (by omega) (by omega)) | (rw [l3]; exact vp_in_nI (by omega) (by omega)) | (rw [l5]; exact vp_in_nI (by omega) (by omega)) | (rw [l6]; exact vp_in_nI (by omega) (by omega))) ?_
  refine tb_topI (y := tb_I M (o + 1) q) (by rw [nI_clamp (show q < 2 ^ 31 by omega)]) ?_
  refine tb_icmp_eq 17 d_Sh_isSame_12 (by decide) rfl (fun h12 => ?_) (fun h12 => ?_)
  · refine tb_iconst (0) (by decide) d_Sh_isSame_17 rfl ?_
    refine tb_istore_4 d_Sh_isSame_18 rfl (by decide) ?_
    rcases hT.2.1 p hp with hv | ⟨n, hn, hv⟩
    · refine tb_iload_4 d_Sh_isSame_20 rfl ?_
      refine tb_aload_0 d_Sh_isSame_22 rfl ?_
      refine g_Sh_9 d_Sh_isSame_23 rfl rfl (by first | exact k1 | exact k2 | exact k3 | exact k4 | exact k5 | exact k6) ?_
      refine tb_topR r0 ?_
      refine tb_iload_1 d_Sh_isSame_26 rfl ?_
      refine tb_iaload d_Sh_isSame_27 rfl (by first | exact k1 | exact k2 | exact k3 | exact k4 | exact k5 | exact k6) (by first | (rw [l2]; exact vp_in_nI (by omega) (by omega)) | (rw [l3]; exact vp_in_nI (by omega) (by omega)) | (rw [l5]; exact vp_in_nI (by omega) (by omega)) | (rw [l6]; exact vp_in_nI (by omega) (by omega))) ?_
      refine tb_topI (y := -1) (by rw [nI_clamp (show p < 2 ^ 31 by omega)]; exact hv) ?_
      refine tb_icmp_ge 66 d_Sh_isSame_28 (by decide) rfl (fun h28 => ?_) (fun h28 => ?_)
      · refine tb_iconst (1) (by decide) d_Sh_isSame_66 rfl ?_
        refine tb_ireturn d_Sh_isSame_67 rfl (by first | rfl | assumption) ?_
        exact ⟨by rw [bI_t (by rw [pl_none hv, pl_none (h12 ▸ hv)])], rfl⟩
      · exact absurd (by decide) h28
    · exact lp_Sh_isSame hS hT hO hp hq hn hv (h12 ▸ hv) ⟨rfl, rfl⟩ n 0 rfl (Nat.zero_le _) (fun i hi => absurd hi (Nat.not_lt_zero _))
  · refine tb_iconst (0) (by decide) d_Sh_isSame_15 rfl ?_
    refine tb_ireturn d_Sh_isSame_16 rfl (by first | rfl | assumption) ?_
    have hfin : ¬ pl M s p = pl M o q := fun z => h12 (by
      rcases pl_cases hT hp with ⟨e1, e2⟩ | ⟨n, hn, e1, e2⟩ <;> rcases pl_cases hO hq with ⟨f1, f2⟩ | ⟨n', hn', f1, f2⟩
      · rw [e1, f1]
      · rw [e2, f2] at z; cases z
      · rw [e2, f2] at z; cases z
      · rw [e2, f2] at z
        have z2 := congrArg List.length (Option.some.inj z)
        simp at z2
        rw [e1, f1, z2])
    exact ⟨by rw [bI_f hfin], rfl⟩
end Shelf2
end
section
/-! Shelf: which are there; sorting. -/
/-- the set of the numbers below n with b -/
noncomputable def msk (b : Nat → Prop) : Nat → Int32
  | 0 => 0
  | n + 1 => @ite _ (b n) (Classical.propDecidable _) (msk b n ||| (1 <<< (nI n &&& 31))) (msk b n)
theorem msk_t {b : Nat → Prop} {n : Nat} (h : b n) : msk b (n + 1) = msk b n ||| (1 <<< (nI n &&& 31)) := by simp only [msk]; rw [if_pos h]
theorem msk_f {b : Nat → Prop} {n : Nat} (h : ¬ b n) : msk b (n + 1) = msk b n := by simp only [msk]; rw [if_neg h]
/-- x put into a list that stands reversed: behind all that are not greater -/
def insR (x : Int32) : List Int32 → List Int32
  | [] => [x]
  | y :: r => if x < y then y :: insR x r else x :: y :: r
def srtR (l : List Int32) : List Int32 := l.foldl (fun acc x => insR x acc) []
def srt (l : List Int32) : List Int32 := (srtR l).reverse
def rp (a : Nat → Int32) : Nat → List Int32
  | 0 => []
  | k + 1 => a k :: rp a k
theorem rp_congr {a b : Nat → Int32} : ∀ k, (∀ i, i < k → a i = b i) → rp a k = rp b k := by
  intro k
  induction k with
  | zero => intro _; rfl
  | succ k ih => intro h; simp only [rp]; rw [h k (by omega), ih (fun i hi => h i (by omega))]
theorem rp_rev (b : Nat → Int32) : ∀ n, (rp b n).reverse = (List.range n).map b := by
  intro n
  induction n with
  | zero => rfl
  | succ n ih => simp only [rp, List.reverse_cons, ih, List.range_succ, List.map_append, List.map_cons, List.map_nil]
theorem ins_rp {a a' : Nat → Int32} {x : Int32} {g : Nat} : ∀ k, g ≤ k → (∀ i, i < g → a' i = a i) → a' g = x → (∀ i, g < i → i ≤ k → a' i = a (i - 1)) → (∀ j, g ≤ j → j < k → x < a j) → (g = 0 ∨ ¬ x < a (g - 1)) → insR x (rp a k) = rp a' (k + 1) := by
  intro k
  induction k with
  | zero =>
    intro hg _ hx _ _ _
    have : g = 0 := by omega
    subst this
    simp [rp, insR, hx]
  | succ k ih =>
    intro hg h1 hx h2 h3 h4
    by_cases e : g = k + 1
    · subst e
      have hn : ¬ x < a k := by
        rcases h4 with h4 | h4
        · omega
        · exact h4
      show (if x < a k then _ else _) = _
      rw [if_neg hn]
      show x :: rp a (k + 1) = a' (k + 1) :: rp a' (k + 1)
      rw [hx, rp_congr (k + 1) (fun i hi => (h1 i hi).symm)]
    · show (if x < a k then _ else _) = _
      rw [if_pos (h3 k (by omega) (by omega))]
      show a k :: insR x (rp a k) = a' (k + 1) :: rp a' (k + 1)
      rw [h2 (k + 1) (by omega) (by omega), ih (by omega) h1 hx (fun i hi hk => h2 i hi (by omega)) (fun j hj hk => h3 j hj (by omega)) h4]
      rfl
theorem nI_dec (g : Nat) : nI (g + 1) + (-1) = nI g := by
  rw [← nI_pred g, Int32.sub_eq_add_neg]
theorem srtR_succ (a : Nat → Int32) (k : Nat) : srtR ((List.range (k + 1)).map a) = insR (a k) (srtR ((List.range k).map a)) := by
  unfold srtR
  rw [List.range_succ, List.map_append, List.foldl_append]
  rfl
def NumIs (M M1 : tb_M) (s p : Nat) (b : Nat → Int32) : Prop := On M M1 (A2 s) ∧ tb_I M1 (s + 1) = tb_I M (s + 1) ∧ (∀ i, i < 6 → tb_I M1 (s + 2) (6 * p + i) = b i) ∧ (∀ k, (k < 6 * p ∨ 6 * p + 6 ≤ k) → tb_I M1 (s + 2) k = tb_I M (s + 2) k) ∧ ∀ i, i < 6 → narrow .short (.int (b i)) = .int (b i)
theorem NumIs.put {M M1 : tb_M} {s p i : Nat} {b : Nat → Int32} {x : Int32} (h : NumIs M M1 s p b) (hi : i < 6) (hx : narrow .short (.int x) = .int x) : NumIs M (tb_sI M1 (s + 2) (6 * p + i) x) s p (va_up b i x) := by
  obtain ⟨h1, h2, h3, h4, h5⟩ := h
  refine ⟨h1.trans (On.sI (Or.inr rfl)), by rw [sI_of _ _ _ (by omega)]; exact h2, fun j hj => ?_, fun k hk => ?_, fun j hj => ?_⟩
  · rw [sI_at]
    unfold va_up
    by_cases e : j = i
    · subst e; rw [if_pos rfl, if_pos rfl]
    · rw [if_neg (by omega), if_neg e]; exact h3 j hj
  · rw [sI_at]
    unfold va_up
    rw [if_neg (by omega)]
    exact h4 k hk
  · unfold va_up
    by_cases e : j = i
    · rw [if_pos e]; exact hx
    · rw [if_neg e]; exact h5 j hj
section Shelf3
variable {E : tb_E} {M : tb_M} {s p : Nat}
theorem lp_Sh_those (hS : Sh M) (hT : ShOk M s) {d rc rs : Nat} {Q : tb_O → tb_M → Prop} (hQ : Q (.inl (some (.inl (msk (fun p => pl M s p ≠ none) 12)))) M) : ∀ (m j : Nat), 12 - j = m → j ≤ 12 → tb_Wp E m_Sh_thoseThere d rc rs 4 [some (.inr s), some (.inl (msk (fun p => pl M s p ≠ none) j)), some (.inl (nI j))] [] M Q := by
  obtain ⟨k1, r0, r1, k2, k3, l2, l3, b1, b2⟩ := hS.sh hT.1
  intro m
  induction m using Nat.strongRecOn with
  | ind m ih =>
    intro j hm hj
    refine tb_iload_2 d_Sh_thoseThere_4 rfl ?_
    refine tb_bipush (12) (by decide) d_Sh_thoseThere_5 rfl ?_
    refine tb_icmp_ge 32 d_Sh_thoseThere_7 (by decide) rfl (fun h7 => ?_) (fun h7 => ?_)
    · have hje : 12 ≤ j := (nI_leI (a := 12) (b := j) (by omega) (by omega)).mp h7
      have hj12 : j = 12 := by omega
      subst hj12
      refine tb_iload_1 d_Sh_thoseThere_32 rfl ?_
      refine tb_ireturn d_Sh_thoseThere_33 rfl (by first | rfl | assumption) ?_
      exact hQ
    · have hlt : j < 12 := Nat.lt_of_not_le (fun q => h7 ((nI_leI (a := 12) (b := j) (by omega) (by omega)).mpr q))
      refine tb_aload_0 d_Sh_thoseThere_10 rfl ?_
      refine g_Sh_9 d_Sh_thoseThere_11 rfl rfl (by first | exact k1 | exact k2 | exact k3) ?_
      refine tb_topR r0 ?_
      refine tb_iload_2 d_Sh_thoseThere_14 rfl ?_
      refine tb_iaload d_Sh_thoseThere_15 rfl (by first | exact k1 | exact k2 | exact k3) (by first | (rw [l2]; exact vp_in_nI (by omega) (by omega)) | (rw [l3]; exact vp_in_nI (by omega) (by omega))) ?_
      refine tb_topI (y := tb_I M (s + 1) j) (by rw [nI_clamp (show j < 2 ^ 31 by omega)]) ?_
      refine tb_iconst (-1) (by decide) d_Sh_thoseThere_16 rfl ?_
      refine tb_icmp_eq 26 d_Sh_thoseThere_17 (by decide) rfl (fun h17 => ?_) (fun h17 => ?_)
      · have hm2 := msk_f (b := fun p => pl M s p ≠ none) (n := j) (fun q => q (pl_none h17))
        refine tb_iinc_2 (1) d_Sh_thoseThere_26 rfl (by decide) (by decide) ?_
        refine tb_goto 4 d_Sh_thoseThere_29 (by decide) ?_
        rw [nI_1, ← hm2]
        exact ih (12 - (j + 1)) (by omega) (j + 1) rfl (by omega)
      · have hm2 := msk_t (b := fun p => pl M s p ≠ none) (n := j) (pl_ne h17)
        refine tb_iload_1 d_Sh_thoseThere_20 rfl ?_
        refine tb_iconst (1) (by decide) d_Sh_thoseThere_21 rfl ?_
        refine tb_iload_2 d_Sh_thoseThere_22 rfl ?_
        refine tb_ishl d_Sh_thoseThere_23 rfl ?_
        refine tb_ior d_Sh_thoseThere_24 rfl ?_
        refine tb_istore_1 d_Sh_thoseThere_25 rfl (by decide) ?_
        refine tb_iinc_2 (1) d_Sh_thoseThere_26 rfl (by decide) (by decide) ?_
        refine tb_goto 4 d_Sh_thoseThere_29 (by decide) ?_
        rw [nI_1, ← hm2]
        exact ih (12 - (j + 1)) (by omega) (j + 1) rfl (by omega)
theorem ok_Sh_those (hG : tb_G E) (hS : Sh M) (hT : ShOk M s) (d : Nat) : tb_Ret E m_Sh_thoseThere d [.inr (.inl s)] M (some (.inl (msk (fun p => pl M s p ≠ none) 12))) M := by
  refine tb_okOf hG (by decide) rfl (Nat.le_of_ble_eq_true rfl) rfl ?_
  refine tb_iconst (0) (by decide) d_Sh_thoseThere_0 rfl ?_
  refine tb_istore_1 d_Sh_thoseThere_1 rfl (by decide) ?_
  refine tb_iconst (0) (by decide) d_Sh_thoseThere_2 rfl ?_
  refine tb_istore_2 d_Sh_thoseThere_3 rfl (by decide) ?_
  exact lp_Sh_those hS hT ⟨rfl, rfl⟩ 12 0 rfl (by omega)
theorem lp_Sh_sort_in (hS : Sh M) (hT : ShOk M s) (hp : p < gL (s + 1)) {k : Nat} (hk : k < 6) {a : Nat → Int32} {x : Int32} (hx : narrow .short (.int x) = .int x) {d rc rs : Nat} {Q : tb_O → tb_M → Prop}
    (kk : ∀ (M2 : tb_M) (b : Nat → Int32) (a5 : tb_L) (g : Nat), NumIs M M2 s p b → g ≤ k → (∀ i, i < g → b i = a i) → b g = x → (∀ i, g < i → i ≤ k → b i = a (i - 1)) → (∀ i, k < i → i < 6 → b i = a i) → (∀ j, g ≤ j → j < k → x < a j) → (g = 0 ∨ ¬ x < a (g - 1)) → tb_Wp E m_Sh_sort d rc rs 7 [some (.inr s), some (.inl (nI p)), some (.inl (nI (6 * p))), some (.inl (nI (k + 1))), some (.inl x), a5] [] M2 Q) :
    ∀ (g : Nat), g ≤ k → ∀ (M1 : tb_M) (b : Nat → Int32), NumIs M M1 s p b → (∀ i, i < g → b i = a i) → (∀ i, g < i → i ≤ k → b i = a (i - 1)) → (∀ i, k < i → i < 6 → b i = a i) → (∀ j, g ≤ j → j < k → x < a j) → tb_Wp E m_Sh_sort d rc rs 29 [some (.inr s), some (.inl (nI p)), some (.inl (nI (6 * p))), some (.inl (nI k)), some (.inl x), some (.inl (nI g))] [] M1 Q := by
  intro g
  induction g with
  | zero =>
    intro hg M1 b hB h1 h2 h3 h4
    have hS1 := hB.1.sh hS
    obtain ⟨k1, r0, r1, k2, k3, l2, l3, b1, b2⟩ := hS1.sh hT.1
    refine tb_iload_5 d_Sh_sort_29 rfl ?_
    refine tb_if_le 76 d_Sh_sort_31 (by decide) rfl (fun h31 => ?_) (fun h31 => ?_)
    · refine tb_aload_0 d_Sh_sort_76 rfl ?_
      refine g_Sh_15 d_Sh_sort_77 rfl rfl (by first | exact k1 | exact k2 | exact k3) ?_
      refine tb_topR r1 ?_
      refine tb_iload_2 d_Sh_sort_80 rfl ?_
      refine tb_iload_5 d_Sh_sort_81 rfl ?_
      refine tb_iadd d_Sh_sort_83 rfl ?_
      rw [nI_add]
      refine tb_iload_4 d_Sh_sort_84 rfl ?_
      refine tb_sastore d_Sh_sort_86 rfl (by first | exact k1 | exact k2 | exact k3) (by first | (rw [l2]; exact vp_in_nI (by omega) (by omega)) | (rw [l3]; exact vp_in_nI (by omega) (by omega))) ?_
      rw [nI_clamp (show 6 * p + 0 < 2 ^ 31 by omega)]
      rw [nar_sh hx]
      refine tb_iinc_3 (1) d_Sh_sort_87 rfl (by decide) (by decide) ?_
      refine tb_goto 7 d_Sh_sort_90 (by decide) ?_
      rw [nI_1]
      refine kk _ (va_up b 0 x) _ 0 (hB.put (by omega) hx) (by omega) (fun i hi => ?_) (by simp [va_up]) (fun i hi hi2 => ?_) (fun i hi hi2 => ?_) h4 (Or.inl rfl)
      · rw [show va_up b 0 x i = b i by simp [va_up]; omega]; exact h1 i hi
      · rw [show va_up b 0 x i = b i by simp [va_up]; omega]; exact h2 i hi hi2
      · rw [show va_up b 0 x i = b i by simp [va_up]; omega]; exact h3 i hi hi2
    · exact absurd (by decide) h31
  | succ g ih =>
    intro hg M1 b hB h1 h2 h3 h4
    have hS1 := hB.1.sh hS
    obtain ⟨k1, r0, r1, k2, k3, l2, l3, b1, b2⟩ := hS1.sh hT.1
    refine tb_iload_5 d_Sh_sort_29 rfl ?_
    refine tb_if_le 76 d_Sh_sort_31 (by decide) rfl (fun h31 => ?_) (fun h31 => ?_)
    · exact absurd h31 (nI_nle (by omega) (by omega))
    · refine tb_aload_0 d_Sh_sort_34 rfl ?_
      refine g_Sh_15 d_Sh_sort_35 rfl rfl (by first | exact k1 | exact k2 | exact k3) ?_
      refine tb_topR r1 ?_
      refine tb_iload_2 d_Sh_sort_38 rfl ?_
      refine tb_iload_5 d_Sh_sort_39 rfl ?_
      refine tb_iadd d_Sh_sort_41 rfl ?_
      rw [nI_add]
      refine tb_iconst (1) (by decide) d_Sh_sort_42 rfl ?_
      refine tb_isub d_Sh_sort_43 rfl ?_
      rw [show nI (6 * p + (g + 1)) - 1 = nI (6 * p + g) from nI_pred (6 * p + g)]
      refine tb_saload d_Sh_sort_44 rfl (by first | exact k1 | exact k2 | exact k3) (by first | (rw [l2]; exact vp_in_nI (by omega) (by omega)) | (rw [l3]; exact vp_in_nI (by omega) (by omega))) ?_
      refine tb_topI (y := a g) (by rw [nI_clamp (show 6 * p + g < 2 ^ 31 by omega)]; rw [hB.2.2.1 g (by omega)]; exact h1 g (by omega)) ?_
      refine tb_iload_4 d_Sh_sort_45 rfl ?_
      refine tb_icmp_le 76 d_Sh_sort_47 (by decide) rfl (fun h47 => ?_) (fun h47 => ?_)
      · have hst : ¬ x < a g := fun q => Int32.not_le.mpr q h47
        refine tb_aload_0 d_Sh_sort_76 rfl ?_
        refine g_Sh_15 d_Sh_sort_77 rfl rfl (by first | exact k1 | exact k2 | exact k3) ?_
        refine tb_topR r1 ?_
        refine tb_iload_2 d_Sh_sort_80 rfl ?_
        refine tb_iload_5 d_Sh_sort_81 rfl ?_
        refine tb_iadd d_Sh_sort_83 rfl ?_
        rw [nI_add]
        refine tb_iload_4 d_Sh_sort_84 rfl ?_
        refine tb_sastore d_Sh_sort_86 rfl (by first | exact k1 | exact k2 | exact k3) (by first | (rw [l2]; exact vp_in_nI (by omega) (by omega)) | (rw [l3]; exact vp_in_nI (by omega) (by omega))) ?_
        rw [nI_clamp (show 6 * p + (g + 1) < 2 ^ 31 by omega)]
        rw [nar_sh hx]
        refine tb_iinc_3 (1) d_Sh_sort_87 rfl (by decide) (by decide) ?_
        refine tb_goto 7 d_Sh_sort_90 (by decide) ?_
        rw [nI_1]
        refine kk _ (va_up b (g + 1) x) _ (g + 1) (hB.put (by omega) hx) (by omega) (fun i hi => ?_) (by simp [va_up]) (fun i hi hi2 => ?_) (fun i hi hi2 => ?_) h4 (Or.inr hst)
        · rw [show va_up b (g + 1) x i = b i by simp [va_up]; omega]; exact h1 i hi
        · rw [show va_up b (g + 1) x i = b i by simp [va_up]; omega]; exact h2 i hi hi2
        · rw [show va_up b (g + 1) x i = b i by simp [va_up]; omega]; exact h3 i hi hi2
      · have hgo : x < a g := Int32.not_le.mp h47
        have hag : narrow .short (.int (a g)) = .int (a g) := by rw [← h1 g (by omega)]; exact hB.2.2.2.2 g (by omega)
        refine tb_aload_0 d_Sh_sort_50 rfl ?_
        refine g_Sh_15 d_Sh_sort_51 rfl rfl (by first | exact k1 | exact k2 | exact k3) ?_
        refine tb_topR r1 ?_
        refine tb_iload_2 d_Sh_sort_54 rfl ?_
        refine tb_iload_5 d_Sh_sort_55 rfl ?_
        refine tb_iadd d_Sh_sort_57 rfl ?_
        rw [nI_add]
        refine tb_aload_0 d_Sh_sort_58 rfl ?_
        refine g_Sh_15 d_Sh_sort_59 rfl rfl (by first | exact k1 | exact k2 | exact k3) ?_
        refine tb_topR r1 ?_
        refine tb_iload_2 d_Sh_sort_62 rfl ?_
        refine tb_iload_5 d_Sh_sort_63 rfl ?_
        refine tb_iadd d_Sh_sort_65 rfl ?_
        rw [nI_add]
        refine tb_iconst (1) (by decide) d_Sh_sort_66 rfl ?_
        refine tb_isub d_Sh_sort_67 rfl ?_
        rw [show nI (6 * p + (g + 1)) - 1 = nI (6 * p + g) from nI_pred (6 * p + g)]
        refine tb_saload d_Sh_sort_68 rfl (by first | exact k1 | exact k2 | exact k3) (by first | (rw [l2]; exact vp_in_nI (by omega) (by omega)) | (rw [l3]; exact vp_in_nI (by omega) (by omega))) ?_
        refine tb_topI (y := a g) (by rw [nI_clamp (show 6 * p + g < 2 ^ 31 by omega)]; rw [hB.2.2.1 g (by omega)]; exact h1 g (by omega)) ?_
        refine tb_sastore d_Sh_sort_69 rfl (by first | exact k1 | exact k2 | exact k3) (by first | (rw [l2]; exact vp_in_nI (by omega) (by omega)) | (rw [l3]; exact vp_in_nI (by omega) (by omega))) ?_
        rw [nI_clamp (show 6 * p + (g + 1) < 2 ^ 31 by omega)]
        rw [nar_sh hag]
        refine tb_iinc_5 (-1) d_Sh_sort_70 rfl (by decide) (by decide) ?_
        refine tb_goto 29 d_Sh_sort_73 (by decide) ?_
        rw [nI_dec g]
        refine ih (by omega) _ (va_up b (g + 1) (a g)) (hB.put (by omega) hag) (fun i hi => ?_) (fun i hi hi2 => ?_) (fun i hi hi2 => ?_) (fun j hj hj2 => ?_)
        · rw [show va_up b (g + 1) (a g) i = b i by simp [va_up]; omega]; exact h1 i (by omega)
        · by_cases e : i = g + 1
          · subst e; simp [va_up]
          · rw [show va_up b (g + 1) (a g) i = b i by simp [va_up, e]]; exact h2 i (by omega) hi2
        · rw [show va_up b (g + 1) (a g) i = b i by simp [va_up]; omega]; exact h3 i hi hi2
        · by_cases e : j = g
          · subst e; exact hgo
          · exact h4 j (by omega) hj2
theorem lp_Sh_sort (hG : tb_G E) (hS : Sh M) (hT : ShOk M s) (hp : p < gL (s + 1)) {n : Nat} (hn : n ≤ 6) (hln : ln (pl M s p) = n) {d rc rs : Nat} {Q : tb_O → tb_M → Prop} (hQ : ∀ M1 b, NumIs M M1 s p b → rp b n = srtR ((List.range n).map (fun i => tb_I M (s + 2) (6 * p + i))) → Q (.inl none) M1) :
    ∀ (m k : Nat), 6 - k = m → 1 ≤ k → k ≤ 6 → (k ≤ n ∨ n = 0) → ∀ (M1 : tb_M) (b : Nat → Int32) (a4 a5 : tb_L), NumIs M M1 s p b → (n ≠ 0 → rp b k = srtR ((List.range k).map (fun i => tb_I M (s + 2) (6 * p + i)))) → (∀ i, k ≤ i → i < 6 → b i = tb_I M (s + 2) (6 * p + i)) → tb_Wp E m_Sh_sort (d + 1) rc rs 7 [some (.inr s), some (.inl (nI p)), some (.inl (nI (6 * p))), some (.inl (nI k)), a4, a5] [] M1 Q := by
  intro m
  induction m using Nat.strongRecOn with
  | ind m ih =>
    intro k hm hk1 hk6 hkn M1 b a4 a5 hB hsr hrest
    have hS1 := hB.1.sh hS
    have hg := gK_sh s (gK_lt (by rw [hT.1]; decide)) hT.1
    have hT1 : ShOk M1 s := by
      refine ⟨hT.1, by rw [hB.2.1]; exact hT.2.1, fun i hi => ?_⟩
      by_cases e : i < 6 * p ∨ 6 * p + 6 ≤ i
      · rw [hB.2.2.2.1 i e]; exact hT.2.2 i hi
      · obtain ⟨q, hq, rfl⟩ : ∃ q, q < 6 ∧ i = 6 * p + q := ⟨i - 6 * p, by omega, by omega⟩
        rw [hB.2.2.1 q hq]; exact hB.2.2.2.2 q hq
    have hln1 : ln (pl M1 s p) = n := by
      rcases pl_cases hT hp with ⟨e1, e2⟩ | ⟨n', hn', e1, e2⟩
      · rw [pl_none (by rw [hB.2.1]; exact e1), ← hln, e2]
      · rw [pl_some hn' (by rw [hB.2.1]; exact e1), ← hln, e2]
        simp [ln]
    obtain ⟨k1, r0, r1, k2, k3, l2, l3, b1, b2⟩ := hS1.sh hT.1
    refine tb_iload_3 d_Sh_sort_7 rfl ?_
    refine tb_aload_0 d_Sh_sort_8 rfl ?_
    refine tb_iload_1 d_Sh_sort_9 rfl ?_
    refine tb_callVr c_Sh_19 d_Sh_sort_10 rfl rfl rfl (Nat.le_of_ble_eq_true rfl) (by first | exact k1 | exact k2 | exact k3) (ok_Sh_length hG hS1 hT1 hp d) ?_
    rw [hln1]
    refine tb_icmp_ge 93 d_Sh_sort_13 (by decide) rfl (fun h13 => ?_) (fun h13 => ?_)
    · have hje : n ≤ k := (nI_leI (a := n) (b := k) (by omega) (by omega)).mp h13
      refine tb_vreturn d_Sh_sort_93 rfl ?_
      by_cases hn0 : n = 0
      · subst hn0; exact hQ M1 b hB rfl
      · have hkk : k = n := by omega
        subst hkk
        exact hQ M1 b hB (hsr hn0)
    · have hlt : k < n := Nat.lt_of_not_le (fun q => h13 ((nI_leI (a := n) (b := k) (by omega) (by omega)).mpr q))
      refine tb_aload_0 d_Sh_sort_16 rfl ?_
      refine g_Sh_15 d_Sh_sort_17 rfl rfl (by first | exact k1 | exact k2 | exact k3) ?_
      refine tb_topR r1 ?_
      refine tb_iload_2 d_Sh_sort_20 rfl ?_
      refine tb_iload_3 d_Sh_sort_21 rfl ?_
      refine tb_iadd d_Sh_sort_22 rfl ?_
      rw [nI_add]
      refine tb_saload d_Sh_sort_23 rfl (by first | exact k1 | exact k2 | exact k3) (by first | (rw [l2]; exact vp_in_nI (by omega) (by omega)) | (rw [l3]; exact vp_in_nI (by omega) (by omega))) ?_
      refine tb_topI (y := b k) (by rw [nI_clamp (show 6 * p + k < 2 ^ 31 by omega)]; exact hB.2.2.1 k (by omega)) ?_
      refine tb_istore_4 d_Sh_sort_24 rfl (by decide) ?_
      refine tb_iload_3 d_Sh_sort_26 rfl ?_
      refine tb_istore_5 d_Sh_sort_27 rfl (by decide) ?_
      refine lp_Sh_sort_in hS hT hp (show k < 6 by omega) (a := b) (x := b k) (hB.2.2.2.2 k (by omega)) (fun M2 b2 a5 g hB2 hgk g1 g2 g3 g4 g5 g6 => ?_) k (Nat.le_refl _) M1 b hB (fun i _ => rfl) (fun i hi hi2 => absurd hi2 (by omega)) (fun i _ _ => rfl) (fun j hj hj2 => absurd hj2 (by omega))
      refine ih (6 - (k + 1)) (by omega) (k + 1) rfl (by omega) (by omega) (Or.inl (by omega)) M2 b2 _ _ hB2 (fun hn0 => ?_) (fun i hi hi2 => ?_)
      · rw [srtR_succ, ← hsr hn0, ← hrest k (Nat.le_refl _) (by omega)]
        exact (ins_rp k hgk g1 g2 g3 g5 g6).symm
      · rw [g4 i (by omega) hi2]
        exact hrest i (by omega) hi2
def PlSet (M M1 : tb_M) (s p : Nat) (v : Option (List Int32)) : Prop := On M M1 (A2 s) ∧ ShOk M1 s ∧ pl M1 s p = v ∧ ∀ p', p' ≠ p → p' < gL (s + 1) → pl M1 s p' = pl M s p'
theorem ok_Sh_sort (hG : tb_G E) (hS : Sh M) (hT : ShOk M s) (hp : p < gL (s + 1)) {l : List Int32} (hl : pl M s p = some l) (d : Nat) : tb_Rel E m_Sh_sort (d + 1) [.inr (.inl s), .inl (nI p)] M (fun v M1 => v = none ∧ PlSet M M1 s p (some (srt l))) := by
  have hg := gK_sh s (gK_lt (by rw [hT.1]; decide)) hT.1
  rcases pl_cases hT hp with ⟨e1, e2⟩ | ⟨n, hn, e1, e2⟩
  · rw [e2] at hl; cases hl
  rw [e2] at hl
  have hl := Option.some.inj hl
  have hln : ln (pl M s p) = n := by rw [e2]; simp [ln]
  refine tb_okOf hG (by decide) rfl (Nat.le_of_ble_eq_true rfl) rfl ?_
  refine tb_iload_1 d_Sh_sort_0 rfl ?_
  refine tb_bipush (6) (by decide) d_Sh_sort_1 rfl ?_
  refine tb_imul d_Sh_sort_3 rfl ?_
  rw [nI_mul6]
  refine tb_istore_2 d_Sh_sort_4 rfl (by decide) ?_
  refine tb_iconst (1) (by decide) d_Sh_sort_5 rfl ?_
  refine tb_istore_3 d_Sh_sort_6 rfl (by decide) ?_
  refine lp_Sh_sort hG hS hT hp hn hln (fun M1 b hB hr => ⟨none, rfl, rfl, hB.1, ⟨hT.1, by rw [hB.2.1]; exact hT.2.1, fun i hi => ?_⟩, ?_, fun p' hne hp' => ?_⟩) 5 1 rfl (by omega) (by omega) (by omega) M (fun i => tb_I M (s + 2) (6 * p + i)) _ _ ⟨On.rf, rfl, fun _ _ => rfl, fun _ _ => rfl, fun i hi => hT.2.2 _ (by rw [hg.2.2.2.2]; omega)⟩ (fun _ => rfl) (fun _ _ _ => rfl)
  · by_cases e : i < 6 * p ∨ 6 * p + 6 ≤ i
    · rw [hB.2.2.2.1 i e]; exact hT.2.2 i hi
    · obtain ⟨q, hq, rfl⟩ : ∃ q, q < 6 ∧ i = 6 * p + q := ⟨i - 6 * p, by omega, by omega⟩
      rw [hB.2.2.1 q hq]; exact hB.2.2.2.2 q hq
  · rw [pl_some hn (by rw [hB.2.1]; exact e1), ← hl]
    congr 1
    unfold srt
    rw [← hr, rp_rev]
    apply List.map_congr_left
    intro i hi
    exact hB.2.2.1 i (by have := List.mem_range.mp hi; omega)
  · refine pl_eq (by rw [hB.2.1]) (fun i hi => hB.2.2.2.1 _ (by omega)) (by rw [hB.2.1]; exact hT.2.1 p' hp')
end Shelf3
end
