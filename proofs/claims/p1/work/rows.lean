section
-- ===== PART A: goes FIRST, ahead of the names: the tables' words, and 'selects' of the private methods out of them =====
/-- a private method of a class that the tables say can be made, by its rows of tables_1 -/
def lw_okq (q : MethodName × Nat) : Prop := (q.1.cls ≠ "java/lang/invoke/MethodHandle" ∧ q.1.cls ≠ "java/lang/invoke/VarHandle") ∧ Cond.instantiable q.1.cls q.2 ∈ tables_1 ∧ Cond.privateMethod q.1 ∈ tables_1 ∧ Cond.instanceMethod q.1 ∈ tables_1
theorem lw_p0 : lw_okq (⟨"NamesInBags", "readInto", "(LNamesInBags$Rule;)I"⟩, 17) := ⟨⟨by decide +kernel, by decide +kernel⟩, List.mem_of_getElem? (i := 18) (by decide +kernel), List.mem_of_getElem? (i := 435) (by decide +kernel), List.mem_of_getElem? (i := 436) (by decide +kernel)⟩
theorem lw_p1 : lw_okq (⟨"NamesInBags", "isDrawingLeft", "()Z"⟩, 17) := ⟨⟨by decide +kernel, by decide +kernel⟩, List.mem_of_getElem? (i := 18) (by decide +kernel), List.mem_of_getElem? (i := 458) (by decide +kernel), List.mem_of_getElem? (i := 459) (by decide +kernel)⟩
theorem lw_p2 : lw_okq (⟨"NamesInBags", "readyNow", "()V"⟩, 17) := ⟨⟨by decide +kernel, by decide +kernel⟩, List.mem_of_getElem? (i := 18) (by decide +kernel), List.mem_of_getElem? (i := 462) (by decide +kernel), List.mem_of_getElem? (i := 463) (by decide +kernel)⟩
theorem lw_p3 : lw_okq (⟨"NamesInBags$Course", "barredBy", "(III)I"⟩, 14) := ⟨⟨by decide +kernel, by decide +kernel⟩, List.mem_of_getElem? (i := 147) (by decide +kernel), List.mem_of_getElem? (i := 498) (by decide +kernel), List.mem_of_getElem? (i := 499) (by decide +kernel)⟩
theorem lw_p4 : lw_okq (⟨"NamesInBags$Course", "kinOf", "(I)I"⟩, 14) := ⟨⟨by decide +kernel, by decide +kernel⟩, List.mem_of_getElem? (i := 147) (by decide +kernel), List.mem_of_getElem? (i := 502) (by decide +kernel), List.mem_of_getElem? (i := 503) (by decide +kernel)⟩
theorem lw_p5 : lw_okq (⟨"NamesInBags$Course", "satSince", "(II)I"⟩, 14) := ⟨⟨by decide +kernel, by decide +kernel⟩, List.mem_of_getElem? (i := 147) (by decide +kernel), List.mem_of_getElem? (i := 506) (by decide +kernel), List.mem_of_getElem? (i := 507) (by decide +kernel)⟩
theorem lw_p6 : lw_okq (⟨"NamesInBags", "drawSlip", "(I)I"⟩, 17) := ⟨⟨by decide +kernel, by decide +kernel⟩, List.mem_of_getElem? (i := 18) (by decide +kernel), List.mem_of_getElem? (i := 542) (by decide +kernel), List.mem_of_getElem? (i := 543) (by decide +kernel)⟩
theorem lw_p7 : lw_okq (⟨"NamesInBags", "follow", "(JI)I"⟩, 17) := ⟨⟨by decide +kernel, by decide +kernel⟩, List.mem_of_getElem? (i := 18) (by decide +kernel), List.mem_of_getElem? (i := 574) (by decide +kernel), List.mem_of_getElem? (i := 575) (by decide +kernel)⟩
theorem lw_p8 : lw_okq (⟨"NamesInBags", "isAhead", "(I)Z"⟩, 17) := ⟨⟨by decide +kernel, by decide +kernel⟩, List.mem_of_getElem? (i := 18) (by decide +kernel), List.mem_of_getElem? (i := 609) (by decide +kernel), List.mem_of_getElem? (i := 610) (by decide +kernel)⟩
theorem lw_p9 : lw_okq (⟨"NamesInBags", "walkBy", "(LNamesInBags$Rule;II)Z"⟩, 17) := ⟨⟨by decide +kernel, by decide +kernel⟩, List.mem_of_getElem? (i := 18) (by decide +kernel), List.mem_of_getElem? (i := 613) (by decide +kernel), List.mem_of_getElem? (i := 614) (by decide +kernel)⟩
theorem lw_p10 : lw_okq (⟨"NamesInBags$Walk", "openAll", "(LNamesInBags$Course;)V"⟩, 6) := ⟨⟨by decide +kernel, by decide +kernel⟩, List.mem_of_getElem? (i := 209) (by decide +kernel), List.mem_of_getElem? (i := 641) (by decide +kernel), List.mem_of_getElem? (i := 642) (by decide +kernel)⟩
theorem lw_p11 : lw_okq (⟨"NamesInBags$Walk", "drawAll", "(LNamesInBags$Course;)Z"⟩, 6) := ⟨⟨by decide +kernel, by decide +kernel⟩, List.mem_of_getElem? (i := 209) (by decide +kernel), List.mem_of_getElem? (i := 650) (by decide +kernel), List.mem_of_getElem? (i := 651) (by decide +kernel)⟩
theorem lw_p12 : lw_okq (⟨"NamesInBags$Walk", "drawEach", "(LNamesInBags$Course;I)Z"⟩, 6) := ⟨⟨by decide +kernel, by decide +kernel⟩, List.mem_of_getElem? (i := 209) (by decide +kernel), List.mem_of_getElem? (i := 656) (by decide +kernel), List.mem_of_getElem? (i := 657) (by decide +kernel)⟩
theorem lw_p13 : lw_okq (⟨"NamesInBags", "canPack", "(II)Z"⟩, 17) := ⟨⟨by decide +kernel, by decide +kernel⟩, List.mem_of_getElem? (i := 18) (by decide +kernel), List.mem_of_getElem? (i := 749) (by decide +kernel), List.mem_of_getElem? (i := 750) (by decide +kernel)⟩
theorem lw_p14 : lw_okq (⟨"NamesInBags", "packing", "(III)I"⟩, 17) := ⟨⟨by decide +kernel, by decide +kernel⟩, List.mem_of_getElem? (i := 18) (by decide +kernel), List.mem_of_getElem? (i := 757) (by decide +kernel), List.mem_of_getElem? (i := 758) (by decide +kernel)⟩
theorem lw_p15 : lw_okq (⟨"NamesInBags", "walkPacked", "(III)Z"⟩, 17) := ⟨⟨by decide +kernel, by decide +kernel⟩, List.mem_of_getElem? (i := 18) (by decide +kernel), List.mem_of_getElem? (i := 761) (by decide +kernel), List.mem_of_getElem? (i := 762) (by decide +kernel)⟩
def lw_privs_1 : List (MethodName × Nat) := [(⟨"NamesInBags", "readInto", "(LNamesInBags$Rule;)I"⟩, 17), (⟨"NamesInBags", "isDrawingLeft", "()Z"⟩, 17), (⟨"NamesInBags", "readyNow", "()V"⟩, 17), (⟨"NamesInBags$Course", "barredBy", "(III)I"⟩, 14), (⟨"NamesInBags$Course", "kinOf", "(I)I"⟩, 14), (⟨"NamesInBags$Course", "satSince", "(II)I"⟩, 14), (⟨"NamesInBags", "drawSlip", "(I)I"⟩, 17), (⟨"NamesInBags", "follow", "(JI)I"⟩, 17), (⟨"NamesInBags", "isAhead", "(I)Z"⟩, 17), (⟨"NamesInBags", "walkBy", "(LNamesInBags$Rule;II)Z"⟩, 17), (⟨"NamesInBags$Walk", "openAll", "(LNamesInBags$Course;)V"⟩, 6), (⟨"NamesInBags$Walk", "drawAll", "(LNamesInBags$Course;)Z"⟩, 6), (⟨"NamesInBags$Walk", "drawEach", "(LNamesInBags$Course;I)Z"⟩, 6), (⟨"NamesInBags", "canPack", "(II)Z"⟩, 17), (⟨"NamesInBags", "packing", "(III)I"⟩, 17), (⟨"NamesInBags", "walkPacked", "(III)Z"⟩, 17)]
theorem lw_r1 : ∀ q ∈ lw_privs_1, lw_okq q := List.forall_mem_cons.mpr ⟨lw_p0, List.forall_mem_cons.mpr ⟨lw_p1, List.forall_mem_cons.mpr ⟨lw_p2, List.forall_mem_cons.mpr ⟨lw_p3, List.forall_mem_cons.mpr ⟨lw_p4, List.forall_mem_cons.mpr ⟨lw_p5, List.forall_mem_cons.mpr ⟨lw_p6, List.forall_mem_cons.mpr ⟨lw_p7, List.forall_mem_cons.mpr ⟨lw_p8, List.forall_mem_cons.mpr ⟨lw_p9, List.forall_mem_cons.mpr ⟨lw_p10, List.forall_mem_cons.mpr ⟨lw_p11, List.forall_mem_cons.mpr ⟨lw_p12, List.forall_mem_cons.mpr ⟨lw_p13, List.forall_mem_cons.mpr ⟨lw_p14, List.forall_mem_cons.mpr ⟨lw_p15, fun _ h => absurd h List.not_mem_nil⟩⟩⟩⟩⟩⟩⟩⟩⟩⟩⟩⟩⟩⟩⟩⟩
theorem lw_p16 : lw_okq (⟨"NamesInBags", "supposePacked", "(II)V"⟩, 17) := ⟨⟨by decide +kernel, by decide +kernel⟩, List.mem_of_getElem? (i := 18) (by decide +kernel), List.mem_of_getElem? (i := 765) (by decide +kernel), List.mem_of_getElem? (i := 766) (by decide +kernel)⟩
theorem lw_p17 : lw_okq (⟨"NamesInBags", "walkAsListed", "()Z"⟩, 17) := ⟨⟨by decide +kernel, by decide +kernel⟩, List.mem_of_getElem? (i := 18) (by decide +kernel), List.mem_of_getElem? (i := 813) (by decide +kernel), List.mem_of_getElem? (i := 814) (by decide +kernel)⟩
theorem lw_p18 : lw_okq (⟨"java/lang/Throwable", "fillInStackTrace", "(I)Ljava/lang/Throwable;"⟩, 6) := ⟨⟨by decide +kernel, by decide +kernel⟩, List.mem_of_getElem? (i := 881) (by decide +kernel), List.mem_of_getElem? (i := 879) (by decide +kernel), List.mem_of_getElem? (i := 880) (by decide +kernel)⟩
theorem lw_p19 : lw_okq (⟨"NamesInBagsModel", "isPerson", "(I)Z"⟩, 56) := ⟨⟨by decide +kernel, by decide +kernel⟩, List.mem_of_getElem? (i := 924) (by decide +kernel), List.mem_of_getElem? (i := 922) (by decide +kernel), List.mem_of_getElem? (i := 923) (by decide +kernel)⟩
theorem lw_p20 : lw_okq (⟨"NamesInBagsModel", "isSet", "(I)Z"⟩, 56) := ⟨⟨by decide +kernel, by decide +kernel⟩, List.mem_of_getElem? (i := 924) (by decide +kernel), List.mem_of_getElem? (i := 951) (by decide +kernel), List.mem_of_getElem? (i := 952) (by decide +kernel)⟩
theorem lw_p21 : lw_okq (⟨"NamesInBagsModel", "readsRule", "(I)I"⟩, 56) := ⟨⟨by decide +kernel, by decide +kernel⟩, List.mem_of_getElem? (i := 924) (by decide +kernel), List.mem_of_getElem? (i := 975) (by decide +kernel), List.mem_of_getElem? (i := 976) (by decide +kernel)⟩
theorem lw_p22 : lw_okq (⟨"NamesInBagsModel", "readsLine", "()Z"⟩, 56) := ⟨⟨by decide +kernel, by decide +kernel⟩, List.mem_of_getElem? (i := 924) (by decide +kernel), List.mem_of_getElem? (i := 979) (by decide +kernel), List.mem_of_getElem? (i := 980) (by decide +kernel)⟩
theorem lw_p23 : lw_okq (⟨"NamesInBagsModel", "comes", "(C)Z"⟩, 56) := ⟨⟨by decide +kernel, by decide +kernel⟩, List.mem_of_getElem? (i := 924) (by decide +kernel), List.mem_of_getElem? (i := 983) (by decide +kernel), List.mem_of_getElem? (i := 984) (by decide +kernel)⟩
theorem lw_p24 : lw_okq (⟨"NamesInBagsModel", "isDead", "(II)Z"⟩, 56) := ⟨⟨by decide +kernel, by decide +kernel⟩, List.mem_of_getElem? (i := 924) (by decide +kernel), List.mem_of_getElem? (i := 1001) (by decide +kernel), List.mem_of_getElem? (i := 1002) (by decide +kernel)⟩
theorem lw_p25 : lw_okq (⟨"NamesInBagsModel", "barredBy", "(II)I"⟩, 56) := ⟨⟨by decide +kernel, by decide +kernel⟩, List.mem_of_getElem? (i := 924) (by decide +kernel), List.mem_of_getElem? (i := 1005) (by decide +kernel), List.mem_of_getElem? (i := 1006) (by decide +kernel)⟩
theorem lw_p26 : lw_okq (⟨"NamesInBagsModel", "doesBar", "(III)Z"⟩, 56) := ⟨⟨by decide +kernel, by decide +kernel⟩, List.mem_of_getElem? (i := 924) (by decide +kernel), List.mem_of_getElem? (i := 1009) (by decide +kernel), List.mem_of_getElem? (i := 1010) (by decide +kernel)⟩
theorem lw_p27 : lw_okq (⟨"NamesInBagsModel", "opens", "(I)V"⟩, 56) := ⟨⟨by decide +kernel, by decide +kernel⟩, List.mem_of_getElem? (i := 924) (by decide +kernel), List.mem_of_getElem? (i := 1020) (by decide +kernel), List.mem_of_getElem? (i := 1021) (by decide +kernel)⟩
theorem lw_p28 : lw_okq (⟨"NamesInBagsModel", "isOver", "(I)Z"⟩, 56) := ⟨⟨by decide +kernel, by decide +kernel⟩, List.mem_of_getElem? (i := 924) (by decide +kernel), List.mem_of_getElem? (i := 1024) (by decide +kernel), List.mem_of_getElem? (i := 1025) (by decide +kernel)⟩
theorem lw_p29 : lw_okq (⟨"NamesInBagsModel", "draws", "(I)I"⟩, 56) := ⟨⟨by decide +kernel, by decide +kernel⟩, List.mem_of_getElem? (i := 924) (by decide +kernel), List.mem_of_getElem? (i := 1029) (by decide +kernel), List.mem_of_getElem? (i := 1030) (by decide +kernel)⟩
theorem lw_p30 : lw_okq (⟨"NamesInBagsModel", "takes", "(II)Z"⟩, 56) := ⟨⟨by decide +kernel, by decide +kernel⟩, List.mem_of_getElem? (i := 924) (by decide +kernel), List.mem_of_getElem? (i := 1037) (by decide +kernel), List.mem_of_getElem? (i := 1038) (by decide +kernel)⟩
theorem lw_p31 : lw_okq (⟨"NamesInBagsModel", "closes", "(I)V"⟩, 56) := ⟨⟨by decide +kernel, by decide +kernel⟩, List.mem_of_getElem? (i := 924) (by decide +kernel), List.mem_of_getElem? (i := 1041) (by decide +kernel), List.mem_of_getElem? (i := 1042) (by decide +kernel)⟩
def lw_privs_2 : List (MethodName × Nat) := [(⟨"NamesInBags", "supposePacked", "(II)V"⟩, 17), (⟨"NamesInBags", "walkAsListed", "()Z"⟩, 17), (⟨"java/lang/Throwable", "fillInStackTrace", "(I)Ljava/lang/Throwable;"⟩, 6), (⟨"NamesInBagsModel", "isPerson", "(I)Z"⟩, 56), (⟨"NamesInBagsModel", "isSet", "(I)Z"⟩, 56), (⟨"NamesInBagsModel", "readsRule", "(I)I"⟩, 56), (⟨"NamesInBagsModel", "readsLine", "()Z"⟩, 56), (⟨"NamesInBagsModel", "comes", "(C)Z"⟩, 56), (⟨"NamesInBagsModel", "isDead", "(II)Z"⟩, 56), (⟨"NamesInBagsModel", "barredBy", "(II)I"⟩, 56), (⟨"NamesInBagsModel", "doesBar", "(III)Z"⟩, 56), (⟨"NamesInBagsModel", "opens", "(I)V"⟩, 56), (⟨"NamesInBagsModel", "isOver", "(I)Z"⟩, 56), (⟨"NamesInBagsModel", "draws", "(I)I"⟩, 56), (⟨"NamesInBagsModel", "takes", "(II)Z"⟩, 56), (⟨"NamesInBagsModel", "closes", "(I)V"⟩, 56)]
theorem lw_r2 : ∀ q ∈ lw_privs_2, lw_okq q := List.forall_mem_cons.mpr ⟨lw_p16, List.forall_mem_cons.mpr ⟨lw_p17, List.forall_mem_cons.mpr ⟨lw_p18, List.forall_mem_cons.mpr ⟨lw_p19, List.forall_mem_cons.mpr ⟨lw_p20, List.forall_mem_cons.mpr ⟨lw_p21, List.forall_mem_cons.mpr ⟨lw_p22, List.forall_mem_cons.mpr ⟨lw_p23, List.forall_mem_cons.mpr ⟨lw_p24, List.forall_mem_cons.mpr ⟨lw_p25, List.forall_mem_cons.mpr ⟨lw_p26, List.forall_mem_cons.mpr ⟨lw_p27, List.forall_mem_cons.mpr ⟨lw_p28, List.forall_mem_cons.mpr ⟨lw_p29, List.forall_mem_cons.mpr ⟨lw_p30, List.forall_mem_cons.mpr ⟨lw_p31, fun _ h => absurd h List.not_mem_nil⟩⟩⟩⟩⟩⟩⟩⟩⟩⟩⟩⟩⟩⟩⟩⟩
theorem lw_p32 : lw_okq (⟨"NamesInBagsModel", "enters", "(J)V"⟩, 56) := ⟨⟨by decide +kernel, by decide +kernel⟩, List.mem_of_getElem? (i := 924) (by decide +kernel), List.mem_of_getElem? (i := 1045) (by decide +kernel), List.mem_of_getElem? (i := 1046) (by decide +kernel)⟩
theorem lw_p33 : lw_okq (⟨"NamesInBagsModel", "remembers", "()V"⟩, 56) := ⟨⟨by decide +kernel, by decide +kernel⟩, List.mem_of_getElem? (i := 924) (by decide +kernel), List.mem_of_getElem? (i := 1054) (by decide +kernel), List.mem_of_getElem? (i := 1055) (by decide +kernel)⟩
theorem lw_p34 : lw_okq (⟨"NamesInBagsModel", "first", "()J"⟩, 56) := ⟨⟨by decide +kernel, by decide +kernel⟩, List.mem_of_getElem? (i := 924) (by decide +kernel), List.mem_of_getElem? (i := 1058) (by decide +kernel), List.mem_of_getElem? (i := 1059) (by decide +kernel)⟩
theorem lw_p35 : lw_okq (⟨"NamesInBagsModel", "second", "()J"⟩, 56) := ⟨⟨by decide +kernel, by decide +kernel⟩, List.mem_of_getElem? (i := 924) (by decide +kernel), List.mem_of_getElem? (i := 1062) (by decide +kernel), List.mem_of_getElem? (i := 1063) (by decide +kernel)⟩
theorem lw_p36 : lw_okq (⟨"NamesInBagsModel", "goesBy", "(JI)I"⟩, 56) := ⟨⟨by decide +kernel, by decide +kernel⟩, List.mem_of_getElem? (i := 924) (by decide +kernel), List.mem_of_getElem? (i := 1066) (by decide +kernel), List.mem_of_getElem? (i := 1067) (by decide +kernel)⟩
theorem lw_p37 : lw_okq (⟨"NamesInBagsModel", "comesBack", "()V"⟩, 56) := ⟨⟨by decide +kernel, by decide +kernel⟩, List.mem_of_getElem? (i := 924) (by decide +kernel), List.mem_of_getElem? (i := 1071) (by decide +kernel), List.mem_of_getElem? (i := 1072) (by decide +kernel)⟩
theorem lw_p38 : lw_okq (⟨"NamesInBagsModel", "unpacks", "(JJ)V"⟩, 56) := ⟨⟨by decide +kernel, by decide +kernel⟩, List.mem_of_getElem? (i := 924) (by decide +kernel), List.mem_of_getElem? (i := 1075) (by decide +kernel), List.mem_of_getElem? (i := 1076) (by decide +kernel)⟩
theorem lw_p39 : lw_okq (⟨"NamesInBagsModel", "isAsBefore", "()V"⟩, 56) := ⟨⟨by decide +kernel, by decide +kernel⟩, List.mem_of_getElem? (i := 924) (by decide +kernel), List.mem_of_getElem? (i := 1089) (by decide +kernel), List.mem_of_getElem? (i := 1090) (by decide +kernel)⟩
theorem lw_p40 : lw_okq (⟨"NamesInBagsModel", "isLeft", "(I)Z"⟩, 56) := ⟨⟨by decide +kernel, by decide +kernel⟩, List.mem_of_getElem? (i := 924) (by decide +kernel), List.mem_of_getElem? (i := 1105) (by decide +kernel), List.mem_of_getElem? (i := 1106) (by decide +kernel)⟩
theorem lw_p41 : lw_okq (⟨"NamesInBagsModel", "asks", "(I)Z"⟩, 56) := ⟨⟨by decide +kernel, by decide +kernel⟩, List.mem_of_getElem? (i := 924) (by decide +kernel), List.mem_of_getElem? (i := 1109) (by decide +kernel), List.mem_of_getElem? (i := 1110) (by decide +kernel)⟩
theorem lw_p42 : lw_okq (⟨"NamesInBagsModel", "reachesNow", "(I)Z"⟩, 56) := ⟨⟨by decide +kernel, by decide +kernel⟩, List.mem_of_getElem? (i := 924) (by decide +kernel), List.mem_of_getElem? (i := 1113) (by decide +kernel), List.mem_of_getElem? (i := 1114) (by decide +kernel)⟩
theorem lw_p43 : lw_okq (⟨"NamesInBagsModel", "reaches", "(I)Z"⟩, 56) := ⟨⟨by decide +kernel, by decide +kernel⟩, List.mem_of_getElem? (i := 924) (by decide +kernel), List.mem_of_getElem? (i := 1117) (by decide +kernel), List.mem_of_getElem? (i := 1118) (by decide +kernel)⟩
theorem lw_p44 : lw_okq (⟨"NamesInBagsModel", "empties", "(I)V"⟩, 56) := ⟨⟨by decide +kernel, by decide +kernel⟩, List.mem_of_getElem? (i := 924) (by decide +kernel), List.mem_of_getElem? (i := 1121) (by decide +kernel), List.mem_of_getElem? (i := 1122) (by decide +kernel)⟩
theorem lw_p45 : lw_okq (⟨"NamesInBagsModel", "adds", "(IJ)Z"⟩, 56) := ⟨⟨by decide +kernel, by decide +kernel⟩, List.mem_of_getElem? (i := 924) (by decide +kernel), List.mem_of_getElem? (i := 1126) (by decide +kernel), List.mem_of_getElem? (i := 1127) (by decide +kernel)⟩
theorem lw_p46 : lw_okq (⟨"NamesInBagsModel", "goesThrough", "(I)Z"⟩, 56) := ⟨⟨by decide +kernel, by decide +kernel⟩, List.mem_of_getElem? (i := 924) (by decide +kernel), List.mem_of_getElem? (i := 1136) (by decide +kernel), List.mem_of_getElem? (i := 1137) (by decide +kernel)⟩
theorem lw_p47 : lw_okq (⟨"NamesInBagsModel", "opensAll", "(I)V"⟩, 56) := ⟨⟨by decide +kernel, by decide +kernel⟩, List.mem_of_getElem? (i := 924) (by decide +kernel), List.mem_of_getElem? (i := 1140) (by decide +kernel), List.mem_of_getElem? (i := 1141) (by decide +kernel)⟩
def lw_privs_3 : List (MethodName × Nat) := [(⟨"NamesInBagsModel", "enters", "(J)V"⟩, 56), (⟨"NamesInBagsModel", "remembers", "()V"⟩, 56), (⟨"NamesInBagsModel", "first", "()J"⟩, 56), (⟨"NamesInBagsModel", "second", "()J"⟩, 56), (⟨"NamesInBagsModel", "goesBy", "(JI)I"⟩, 56), (⟨"NamesInBagsModel", "comesBack", "()V"⟩, 56), (⟨"NamesInBagsModel", "unpacks", "(JJ)V"⟩, 56), (⟨"NamesInBagsModel", "isAsBefore", "()V"⟩, 56), (⟨"NamesInBagsModel", "isLeft", "(I)Z"⟩, 56), (⟨"NamesInBagsModel", "asks", "(I)Z"⟩, 56), (⟨"NamesInBagsModel", "reachesNow", "(I)Z"⟩, 56), (⟨"NamesInBagsModel", "reaches", "(I)Z"⟩, 56), (⟨"NamesInBagsModel", "empties", "(I)V"⟩, 56), (⟨"NamesInBagsModel", "adds", "(IJ)Z"⟩, 56), (⟨"NamesInBagsModel", "goesThrough", "(I)Z"⟩, 56), (⟨"NamesInBagsModel", "opensAll", "(I)V"⟩, 56)]
theorem lw_r3 : ∀ q ∈ lw_privs_3, lw_okq q := List.forall_mem_cons.mpr ⟨lw_p32, List.forall_mem_cons.mpr ⟨lw_p33, List.forall_mem_cons.mpr ⟨lw_p34, List.forall_mem_cons.mpr ⟨lw_p35, List.forall_mem_cons.mpr ⟨lw_p36, List.forall_mem_cons.mpr ⟨lw_p37, List.forall_mem_cons.mpr ⟨lw_p38, List.forall_mem_cons.mpr ⟨lw_p39, List.forall_mem_cons.mpr ⟨lw_p40, List.forall_mem_cons.mpr ⟨lw_p41, List.forall_mem_cons.mpr ⟨lw_p42, List.forall_mem_cons.mpr ⟨lw_p43, List.forall_mem_cons.mpr ⟨lw_p44, List.forall_mem_cons.mpr ⟨lw_p45, List.forall_mem_cons.mpr ⟨lw_p46, List.forall_mem_cons.mpr ⟨lw_p47, fun _ h => absurd h List.not_mem_nil⟩⟩⟩⟩⟩⟩⟩⟩⟩⟩⟩⟩⟩⟩⟩⟩
theorem lw_p48 : lw_okq (⟨"NamesInBagsModel", "looksAt", "(II)V"⟩, 56) := ⟨⟨by decide +kernel, by decide +kernel⟩, List.mem_of_getElem? (i := 924) (by decide +kernel), List.mem_of_getElem? (i := 1144) (by decide +kernel), List.mem_of_getElem? (i := 1145) (by decide +kernel)⟩
theorem lw_p49 : lw_okq (⟨"NamesInBagsModel", "parts", "(II)Z"⟩, 56) := ⟨⟨by decide +kernel, by decide +kernel⟩, List.mem_of_getElem? (i := 924) (by decide +kernel), List.mem_of_getElem? (i := 1148) (by decide +kernel), List.mem_of_getElem? (i := 1149) (by decide +kernel)⟩
theorem lw_p50 : lw_okq (⟨"NamesInBagsModel", "drawsFrom", "(II)Z"⟩, 56) := ⟨⟨by decide +kernel, by decide +kernel⟩, List.mem_of_getElem? (i := 924) (by decide +kernel), List.mem_of_getElem? (i := 1152) (by decide +kernel), List.mem_of_getElem? (i := 1153) (by decide +kernel)⟩
theorem lw_p51 : lw_okq (⟨"NamesInBagsModel", "notes", "(I)V"⟩, 56) := ⟨⟨by decide +kernel, by decide +kernel⟩, List.mem_of_getElem? (i := 924) (by decide +kernel), List.mem_of_getElem? (i := 1156) (by decide +kernel), List.mem_of_getElem? (i := 1157) (by decide +kernel)⟩
theorem lw_p52 : lw_okq (⟨"NamesInBagsModel", "satAt", "(II)I"⟩, 56) := ⟨⟨by decide +kernel, by decide +kernel⟩, List.mem_of_getElem? (i := 924) (by decide +kernel), List.mem_of_getElem? (i := 1160) (by decide +kernel), List.mem_of_getElem? (i := 1161) (by decide +kernel)⟩
theorem lw_p53 : lw_okq (⟨"NamesInBagsModel", "anyOf", "(I)J"⟩, 56) := ⟨⟨by decide +kernel, by decide +kernel⟩, List.mem_of_getElem? (i := 924) (by decide +kernel), List.mem_of_getElem? (i := 1164) (by decide +kernel), List.mem_of_getElem? (i := 1165) (by decide +kernel)⟩
theorem lw_p54 : lw_okq (⟨"NamesInBagsModel", "endPart", "(I)J"⟩, 56) := ⟨⟨by decide +kernel, by decide +kernel⟩, List.mem_of_getElem? (i := 924) (by decide +kernel), List.mem_of_getElem? (i := 1168) (by decide +kernel), List.mem_of_getElem? (i := 1169) (by decide +kernel)⟩
theorem lw_p55 : lw_okq (⟨"NamesInBagsModel", "filled", "(I)J"⟩, 56) := ⟨⟨by decide +kernel, by decide +kernel⟩, List.mem_of_getElem? (i := 924) (by decide +kernel), List.mem_of_getElem? (i := 1184) (by decide +kernel), List.mem_of_getElem? (i := 1185) (by decide +kernel)⟩
theorem lw_p56 : lw_okq (⟨"NamesInBagsModel", "housed", "(I)I"⟩, 56) := ⟨⟨by decide +kernel, by decide +kernel⟩, List.mem_of_getElem? (i := 924) (by decide +kernel), List.mem_of_getElem? (i := 1196) (by decide +kernel), List.mem_of_getElem? (i := 1197) (by decide +kernel)⟩
theorem lw_p57 : lw_okq (⟨"NamesInBagsModel", "sureBits", "()I"⟩, 56) := ⟨⟨by decide +kernel, by decide +kernel⟩, List.mem_of_getElem? (i := 924) (by decide +kernel), List.mem_of_getElem? (i := 1208) (by decide +kernel), List.mem_of_getElem? (i := 1209) (by decide +kernel)⟩
theorem lw_p58 : lw_okq (⟨"NamesInBagsModel", "someBits", "()I"⟩, 56) := ⟨⟨by decide +kernel, by decide +kernel⟩, List.mem_of_getElem? (i := 924) (by decide +kernel), List.mem_of_getElem? (i := 1212) (by decide +kernel), List.mem_of_getElem? (i := 1213) (by decide +kernel)⟩
theorem lw_p59 : lw_okq (⟨"NamesInBagsModel", "isPacking", "(III)Z"⟩, 56) := ⟨⟨by decide +kernel, by decide +kernel⟩, List.mem_of_getElem? (i := 924) (by decide +kernel), List.mem_of_getElem? (i := 1228) (by decide +kernel), List.mem_of_getElem? (i := 1229) (by decide +kernel)⟩
theorem lw_p60 : lw_okq (⟨"NamesInBagsModel", "packing", "(III)I"⟩, 56) := ⟨⟨by decide +kernel, by decide +kernel⟩, List.mem_of_getElem? (i := 924) (by decide +kernel), List.mem_of_getElem? (i := 1232) (by decide +kernel), List.mem_of_getElem? (i := 1233) (by decide +kernel)⟩
theorem lw_p61 : lw_okq (⟨"NamesInBagsModel", "tries", "(III)Z"⟩, 56) := ⟨⟨by decide +kernel, by decide +kernel⟩, List.mem_of_getElem? (i := 924) (by decide +kernel), List.mem_of_getElem? (i := 1236) (by decide +kernel), List.mem_of_getElem? (i := 1237) (by decide +kernel)⟩
theorem lw_p62 : lw_okq (⟨"NamesInBagsModel", "unlike", "(I)J"⟩, 56) := ⟨⟨by decide +kernel, by decide +kernel⟩, List.mem_of_getElem? (i := 924) (by decide +kernel), List.mem_of_getElem? (i := 1248) (by decide +kernel), List.mem_of_getElem? (i := 1249) (by decide +kernel)⟩
theorem lw_p63 : lw_okq (⟨"NamesInBagsModel", "sumBelow", "(I)J"⟩, 56) := ⟨⟨by decide +kernel, by decide +kernel⟩, List.mem_of_getElem? (i := 924) (by decide +kernel), List.mem_of_getElem? (i := 1263) (by decide +kernel), List.mem_of_getElem? (i := 1264) (by decide +kernel)⟩
def lw_privs_4 : List (MethodName × Nat) := [(⟨"NamesInBagsModel", "looksAt", "(II)V"⟩, 56), (⟨"NamesInBagsModel", "parts", "(II)Z"⟩, 56), (⟨"NamesInBagsModel", "drawsFrom", "(II)Z"⟩, 56), (⟨"NamesInBagsModel", "notes", "(I)V"⟩, 56), (⟨"NamesInBagsModel", "satAt", "(II)I"⟩, 56), (⟨"NamesInBagsModel", "anyOf", "(I)J"⟩, 56), (⟨"NamesInBagsModel", "endPart", "(I)J"⟩, 56), (⟨"NamesInBagsModel", "filled", "(I)J"⟩, 56), (⟨"NamesInBagsModel", "housed", "(I)I"⟩, 56), (⟨"NamesInBagsModel", "sureBits", "()I"⟩, 56), (⟨"NamesInBagsModel", "someBits", "()I"⟩, 56), (⟨"NamesInBagsModel", "isPacking", "(III)Z"⟩, 56), (⟨"NamesInBagsModel", "packing", "(III)I"⟩, 56), (⟨"NamesInBagsModel", "tries", "(III)Z"⟩, 56), (⟨"NamesInBagsModel", "unlike", "(I)J"⟩, 56), (⟨"NamesInBagsModel", "sumBelow", "(I)J"⟩, 56)]
theorem lw_r4 : ∀ q ∈ lw_privs_4, lw_okq q := List.forall_mem_cons.mpr ⟨lw_p48, List.forall_mem_cons.mpr ⟨lw_p49, List.forall_mem_cons.mpr ⟨lw_p50, List.forall_mem_cons.mpr ⟨lw_p51, List.forall_mem_cons.mpr ⟨lw_p52, List.forall_mem_cons.mpr ⟨lw_p53, List.forall_mem_cons.mpr ⟨lw_p54, List.forall_mem_cons.mpr ⟨lw_p55, List.forall_mem_cons.mpr ⟨lw_p56, List.forall_mem_cons.mpr ⟨lw_p57, List.forall_mem_cons.mpr ⟨lw_p58, List.forall_mem_cons.mpr ⟨lw_p59, List.forall_mem_cons.mpr ⟨lw_p60, List.forall_mem_cons.mpr ⟨lw_p61, List.forall_mem_cons.mpr ⟨lw_p62, List.forall_mem_cons.mpr ⟨lw_p63, fun _ h => absurd h List.not_mem_nil⟩⟩⟩⟩⟩⟩⟩⟩⟩⟩⟩⟩⟩⟩⟩⟩
theorem lw_p64 : lw_okq (⟨"NamesInBagsModel", "lets", "(II)J"⟩, 56) := ⟨⟨by decide +kernel, by decide +kernel⟩, List.mem_of_getElem? (i := 924) (by decide +kernel), List.mem_of_getElem? (i := 1279) (by decide +kernel), List.mem_of_getElem? (i := 1280) (by decide +kernel)⟩
theorem lw_p65 : lw_okq (⟨"NamesInBagsModel", "keepsListed", "(I)V"⟩, 56) := ⟨⟨by decide +kernel, by decide +kernel⟩, List.mem_of_getElem? (i := 924) (by decide +kernel), List.mem_of_getElem? (i := 1283) (by decide +kernel), List.mem_of_getElem? (i := 1284) (by decide +kernel)⟩
theorem lw_p66 : lw_okq (⟨"NamesInBagsModel", "toldBits", "()I"⟩, 56) := ⟨⟨by decide +kernel, by decide +kernel⟩, List.mem_of_getElem? (i := 924) (by decide +kernel), List.mem_of_getElem? (i := 1308) (by decide +kernel), List.mem_of_getElem? (i := 1309) (by decide +kernel)⟩
def lw_privs_5 : List (MethodName × Nat) := [(⟨"NamesInBagsModel", "lets", "(II)J"⟩, 56), (⟨"NamesInBagsModel", "keepsListed", "(I)V"⟩, 56), (⟨"NamesInBagsModel", "toldBits", "()I"⟩, 56)]
theorem lw_r5 : ∀ q ∈ lw_privs_5, lw_okq q := List.forall_mem_cons.mpr ⟨lw_p64, List.forall_mem_cons.mpr ⟨lw_p65, List.forall_mem_cons.mpr ⟨lw_p66, fun _ h => absurd h List.not_mem_nil⟩⟩⟩
def lw_privs : List (MethodName × Nat) := lw_privs_1 ++ (lw_privs_2 ++ (lw_privs_3 ++ (lw_privs_4 ++ (lw_privs_5))))
def lw_tbl : List Cond := k2_sels lw_privs ++ tables_1
theorem lw_privs_ok : ∀ q ∈ lw_privs, lw_okq q := by
  show ∀ q ∈ lw_privs_1 ++ (lw_privs_2 ++ (lw_privs_3 ++ (lw_privs_4 ++ (lw_privs_5)))), lw_okq q
  exact List.forall_mem_append.mpr ⟨lw_r1, List.forall_mem_append.mpr ⟨lw_r2, List.forall_mem_append.mpr ⟨lw_r3, List.forall_mem_append.mpr ⟨lw_r4, lw_r5⟩⟩⟩⟩
end
section
/-! THE PURE MACHINE: what the bytecode does, as a function on a pure state. References are numbers of cells; '.retAddr' stands for the law's script. -/
/-- a cell: an array (its role's number, its length and contents) or an object (its class's number, its fields) -/
abbrev px_E : Type := (Nat × vp_A) ⊕ (Nat × List Value)
abbrev px_H : Type := List px_E
/-- what a place of the pool stands for: tag, two numbers, a constant -/
abbrev px_R : Type := Nat × Nat × Nat × Int
/-- a method: its name, bytes, locals, answer; its room; its class's number; its code, its pool -/
abbrev px_M : Type := MethodName × ByteArray × Nat × Option FieldType × Room × List (Nat × Nat × Instr) × List (Nat × px_R)
abbrev px_nm (M : px_M) : MethodName := M.1
abbrev px_by (M : px_M) : ByteArray := M.2.1
abbrev px_ml (M : px_M) : Nat := M.2.2.1
abbrev px_rt (M : px_M) : Option FieldType := M.2.2.2.1
abbrev px_rm (M : px_M) : Room := M.2.2.2.2.1
abbrev px_cd (M : px_M) : List (Nat × Nat × Instr) := M.2.2.2.2.2.1
abbrev px_cp (M : px_M) : List (Nat × px_R) := M.2.2.2.2.2.2
/-- a state in a method: pc, locals, stack, heap, cells and slots made so far -/
abbrev px_S : Type := Nat × List (Nat × Value) × List Value × px_H × Nat × Nat
abbrev px_A : Type := Option Value × px_H
def px_find {α : Type} (k : Nat) : List (Nat × α) → Option α
  | [] => none
  | q :: r => match Nat.beq q.1 k with
    | true => some q.2
    | false => px_find k r
def px_ii (f : Int32 → Int32 → Int32) : List Value → Option (List Value)
  | .int y :: .int x :: r => some (.int (f x y) :: r)
  | _ => none
def px_iiz (f : Int32 → Int32 → Int32) : List Value → Option (List Value)
  | .int y :: .int x :: r => if y = 0 then none else some (.int (f x y) :: r)
  | _ => none
def px_ll (f : Int64 → Int64 → Int64) : List Value → Option (List Value)
  | .long y :: .long x :: r => some (.long (f x y) :: r)
  | _ => none
def px_llz (f : Int64 → Int64 → Int64) : List Value → Option (List Value)
  | .long y :: .long x :: r => if y = 0 then none else some (.long (f x y) :: r)
  | _ => none
def px_li (f : Int64 → Int32 → Int64) : List Value → Option (List Value)
  | .int y :: .long x :: r => some (.long (f x y) :: r)
  | _ => none
def px_i1 (f : Int32 → Value) : List Value → Option (List Value)
  | .int x :: r => some (f x :: r)
  | _ => none
def px_l1 (f : Int64 → Value) : List Value → Option (List Value)
  | .long x :: r => some (f x :: r)
  | _ => none
def px_lc : List Value → Option (List Value)
  | .long y :: .long x :: r => some (.int (lg_cmp x y) :: r)
  | _ => none
def px_dup : List Value → Option (List Value)
  | a :: r => if a.category = 1 then some (a :: a :: r) else none
  | _ => none
def px_dup_x1 : List Value → Option (List Value)
  | a :: b :: r => if a.category = 1 ∧ b.category = 1 then some (a :: b :: a :: r) else none
  | _ => none
def px_dup_x2 : List Value → Option (List Value)
  | a :: b :: d :: r => if a.category = 1 ∧ b.category = 1 ∧ d.category = 1 then some (a :: b :: d :: a :: r) else none
  | _ => none
def px_dup2 : List Value → Option (List Value)
  | [] => none
  | a :: r => if a.category = 2 then some (a :: a :: r) else match r with
    | [] => none
    | b :: r => if a.category = 1 ∧ b.category = 1 then some (a :: b :: a :: b :: r) else none
def px_dup2_x1 : List Value → Option (List Value)
  | a :: b :: r => if a.category = 2 ∧ b.category = 1 then some (a :: b :: a :: r) else none
  | _ => none
def px_dup2_x2 : List Value → Option (List Value)
  | a :: b :: d :: r => if a.category = 2 ∧ b.category = 1 ∧ d.category = 1 then some (a :: b :: d :: a :: r) else none
  | _ => none
def px_pop : List Value → Option (List Value)
  | a :: r => if a.category = 1 then some r else none
  | _ => none
def px_pop2 : List Value → Option (List Value)
  | a :: r => if a.category = 2 then some r else none
  | _ => none
/-- what touches the stack alone -/
def px_alu (i : Instr) (st : List Value) : Option (List Value) :=
  match i with
  | .iconst n => some (.int (Int32.ofInt n) :: st)
  | .bipush n => some (.int (Int8.ofInt n).toInt32 :: st)
  | .sipush n => some (.int (Int16.ofInt n).toInt32 :: st)
  | .lconst n => some (.long (Int64.ofNat (n : Nat)) :: st)
  | .iadd => px_ii (fun x y => x + y) st
  | .isub => px_ii (fun x y => x - y) st
  | .imul => px_ii (fun x y => x * y) st
  | .iand => px_ii (fun x y => x &&& y) st
  | .ior => px_ii (fun x y => x ||| y) st
  | .ixor => px_ii (fun x y => x ^^^ y) st
  | .ishl => px_ii (fun x y => x <<< (y &&& 31)) st
  | .ishr => px_ii (fun x y => x >>> (y &&& 31)) st
  | .iushr => px_ii (fun x y => (x.toUInt32 >>> (y.toUInt32 &&& Int32.toUInt32 31)).toInt32) st
  | .idiv => px_iiz (fun x y => x / y) st
  | .irem => px_iiz (fun x y => x - x / y * y) st
  | .ladd => px_ll (fun x y => x + y) st
  | .lsub => px_ll (fun x y => x - y) st
  | .lmul => px_ll (fun x y => x * y) st
  | .land => px_ll (fun x y => x &&& y) st
  | .lor => px_ll (fun x y => x ||| y) st
  | .lxor => px_ll (fun x y => x ^^^ y) st
  | .ldiv => px_llz (fun x y => x / y) st
  | .lshl => px_li (fun x y => x <<< (y.toInt64 &&& 63)) st
  | .lshr => px_li (fun x y => x >>> (y.toInt64 &&& 63)) st
  | .lushr => px_li (fun x y => (x.toUInt64 >>> (y.toInt64.toUInt64 &&& Int64.toUInt64 63)).toInt64) st
  | .ineg => px_i1 (fun x => .int (-x)) st
  | .i2l => px_i1 (fun x => .long x.toInt64) st
  | .i2b => px_i1 (fun x => .int x.toInt8.toInt32) st
  | .i2s => px_i1 (fun x => .int x.toInt16.toInt32) st
  | .l2i => px_l1 (fun x => .int x.toInt32) st
  | .lcmp => px_lc st
  | .dup => px_dup st
  | .dup_x1 => px_dup_x1 st
  | .dup_x2 => px_dup_x2 st
  | .dup2 => px_dup2 st
  | .dup2_x1 => px_dup2_x1 st
  | .dup2_x2 => px_dup2_x2 st
  | .pop => px_pop st
  | .pop2 => px_pop2 st
  | _ => none
def px_st1 (lv : List (Nat × Value)) (i : Nat) (v : Value) : List (Nat × Value) := (i, v) :: lv.filter (fun q => !(q.1 == i) && !(q.1 + 1 == i && q.2.category == 2))
def px_st2 (lv : List (Nat × Value)) (i : Nat) (v : Value) : List (Nat × Value) := (i, v) :: lv.filter (fun q => !(q.1 == i) && (!(q.1 == i + 1) && !(q.1 + 1 == i && q.2.category == 2)))
def px_cmp (c : ClassFile.Cond) (x y : Int32) : Bool :=
  match c with
  | .eq => decide (x = y)
  | .ne => decide (¬ x = y)
  | .lt => decide (x < y)
  | .ge => decide (y ≤ x)
  | .gt => decide (y < x)
  | .le => decide (x ≤ y)
def px_tgt (pc : Nat) (off : Int) : Nat := ((pc : Int) + off).toNat
/-- the roles of arrays: the type of their elements; the classes: slots, types of the fields -/
abbrev px_T : Type := List FieldType × List (Nat × List FieldType)
def px_inR (i : Int32) (n : Nat) : Bool := decide (0 ≤ i.toInt) && decide (i.toInt < n)
def px_dflt (n : Nat) (ty : FieldType) : Option vp_A :=
  match ty with
  | .int => some (n, .inl (fun _ => 0))
  | .boolean => some (n, .inl (fun _ => 0))
  | .long => some (n, .inr (.inl (fun _ => 0)))
  | .object _ => some (n, .inr (.inr (.inr (.inr (fun _ => none)))))
  | _ => none
def px_zr (ty : FieldType) (v : Int32) : Bool :=
  match ty with
  | .int => true
  | .boolean => decide (v = 0) || decide (v = 1)
  | _ => false
def px_fits (ty : FieldType) (v : Value) : Bool :=
  match ty, v with
  | .int, .int _ => true
  | .long, .long _ => true
  | .object _, .ref _ => true
  | .array _, .ref _ => true
  | _, _ => false
/-- reading an element -/
def px_ald (T : px_T) (X : Option (Nat × (Nat → Int32))) (i : Instr) (hp : px_H) (a : Value) (j : Int32) : Option Value :=
  match a with
  | .retAddr _ => match i, X with
    | .iaload, some X => match px_inR j X.1 with
      | true => some (.int (X.2 j.toNatClampNeg))
      | false => none
    | _, _ => none
  | .ref k => match hp[k]? with
    | some (.inl (t, n, f)) => match px_inR j n with
      | false => none
      | true => match i, T.1[t]?, f with
        | .iaload, some .int, .inl f => some (.int (f j.toNatClampNeg))
        | .baload, some .boolean, .inl f => some (.int (f j.toNatClampNeg))
        | .laload, some .long, .inr (.inl f) => some (.long (f j.toNatClampNeg))
        | .aaload, some (.object _), .inr (.inr (.inr (.inr f))) => match f j.toNatClampNeg with
          | some q => some (.ref q)
          | none => none
        | _, _, _ => none
    | _ => none
  | _ => none
/-- writing an element: the new heap -/
def px_ast (T : px_T) (i : Instr) (hp : px_H) (k : Nat) (j : Int32) (v : Value) : Option px_H :=
  match hp[k]? with
  | some (.inl (t, n, f)) => match px_inR j n with
    | false => none
    | true => match i, T.1[t]?, f, v with
      | .iastore, some .int, .inl f, .int x => some (hp.set k (.inl (t, n, .inl (upd f j.toNatClampNeg x))))
      | .bastore, some .boolean, .inl f, .int x => match decide (x = 0) || decide (x = 1) with
        | true => some (hp.set k (.inl (t, n, .inl (upd f j.toNatClampNeg x))))
        | false => none
      | .lastore, some .long, .inr (.inl f), .long x => some (hp.set k (.inl (t, n, .inr (.inl (vp_updL f j.toNatClampNeg x)))))
      | _, _, _, _ => none
  | _ => none
/-- one step: a new state, or the method's end -/
def px_step (T : px_T) (X : Option (Nat × (Nat → Int32))) (P : List px_M) (call : Nat → List Value → px_H → Option px_A) (M : px_M) (N0 : Nat) (s : px_S) : Option (px_S ⊕ px_A) :=
  match s with
  | (pc, lv, st, hp, nc, ns) =>
    match px_find pc (px_cd M) with
    | none => none
    | some (len, i) =>
      match px_alu i st with
      | some st' => some (.inl (pc + len, lv, st', hp, nc, ns))
      | none =>
        let ldi (j : Nat) : Option (px_S ⊕ px_A) := match px_find j lv with
          | some (.int x) => some (.inl (pc + len, lv, .int x :: st, hp, nc, ns))
          | _ => none
        let ldl (j : Nat) : Option (px_S ⊕ px_A) := match px_find j lv with
          | some (.long x) => some (.inl (pc + len, lv, .long x :: st, hp, nc, ns))
          | _ => none
        let lda (j : Nat) : Option (px_S ⊕ px_A) := match px_find j lv with
          | some (.ref x) => some (.inl (pc + len, lv, .ref x :: st, hp, nc, ns))
          | some (.retAddr x) => some (.inl (pc + len, lv, .retAddr x :: st, hp, nc, ns))
          | _ => none
        let sti (j : Nat) : Option (px_S ⊕ px_A) := match st with
          | .int x :: r => match decide (j < px_ml M) with
            | true => some (.inl (pc + len, px_st1 lv j (.int x), r, hp, nc, ns))
            | false => none
          | _ => none
        let sta (j : Nat) : Option (px_S ⊕ px_A) := match st with
          | .ref x :: r => match decide (j < px_ml M) with
            | true => some (.inl (pc + len, px_st1 lv j (.ref x), r, hp, nc, ns))
            | false => none
          | _ => none
        let stl (j : Nat) : Option (px_S ⊕ px_A) := match st with
          | .long x :: r => match decide (j + 1 < px_ml M) with
            | true => some (.inl (pc + len, px_st2 lv j (.long x), r, hp, nc, ns))
            | false => none
          | _ => none
        let br (c : Bool) (off : Int) (r : List Value) : Option (px_S ⊕ px_A) := match c with
          | true => some (.inl (px_tgt pc off, lv, r, hp, nc, ns))
          | false => some (.inl (pc + 3, lv, r, hp, nc, ns))
        let inv (n mi : Nat) : Option (px_S ⊕ px_A) := match P[mi]? with
          | none => none
          | some N => match decide (n ≤ st.length), decide (((st.drop n).map fun v => v.category).sum ≤ 8), decide (nc + (px_rm N).cells ≤ (px_rm M).cells), decide (ns + (px_rm N).slots ≤ (px_rm M).slots), decide ((px_rm N).cells = 0 ∨ hp.length = N0 + nc) with
            | true, true, true, true, true => match call mi (st.take n).reverse hp with
              | none => none
              | some (r, hp') => some (.inl (pc + 3, lv, r.toList ++ st.drop n, hp', nc + (px_rm N).cells, ns + (px_rm N).slots))
            | _, _, _, _, _ => none
        match i with
        | .iload j => ldi j
        | .iload_n j => ldi j
        | .lload j => ldl j
        | .lload_n j => ldl j
        | .aload j => lda j
        | .aload_n j => lda j
        | .istore j => sti j
        | .istore_n j => sti j
        | .astore j => sta j
        | .astore_n j => sta j
        | .lstore j => stl j
        | .lstore_n j => stl j
        | .iinc j n => match px_find j lv, decide (j < px_ml M) with
          | some (.int x), true => some (.inl (pc + len, px_st1 lv j (.int (x + Int32.ofInt n)), st, hp, nc, ns))
          | _, _ => none
        | .ifCond c off => match st with
          | .int x :: r => br (px_cmp c x 0) off r
          | _ => none
        | .if_icmp c off => match st with
          | .int y :: .int x :: r => br (px_cmp c x y) off r
          | _ => none
        | .goto off => some (.inl (px_tgt pc off, lv, st, hp, nc, ns))
        | .tableswitch dflt lo hi offs => match st with
          | .int x :: r => match decide (x.toInt < lo) || decide (hi < x.toInt) with
            | true => some (.inl (px_tgt pc dflt, lv, r, hp, nc, ns))
            | false => match offs[(x.toInt - lo).toNat]? with
              | some off => some (.inl (px_tgt pc off, lv, r, hp, nc, ns))
              | none => none
          | _ => none
        | .lookupswitch dflt ps => match st with
          | .int x :: r => match decide (0 ≤ (pc : Int) + Op.lookupswitch.offset ps.toList dflt x.toInt) with
            | true => some (.inl (px_tgt pc (Op.lookupswitch.offset ps.toList dflt x.toInt), lv, r, hp, nc, ns))
            | false => none
          | _ => none
        | .ldc idx => match px_find idx (px_cp M) with
          | some (3, _, _, v) => some (.inl (pc + len, lv, .int (Int32.ofInt v) :: st, hp, nc, ns))
          | _ => none
        | .ldc_w idx => match px_find idx (px_cp M) with
          | some (3, _, _, v) => some (.inl (pc + len, lv, .int (Int32.ofInt v) :: st, hp, nc, ns))
          | _ => none
        | .ldc2_w idx => match px_find idx (px_cp M) with
          | some (4, _, _, v) => some (.inl (pc + len, lv, .long (Int64.ofInt v) :: st, hp, nc, ns))
          | _ => none
        | .getfield idx => match px_find idx (px_cp M), st with
          | some (0, ci, k, _), .ref a :: r => match hp[a]? with
            | some (.inr (c, fs)) => match Nat.beq c ci, fs[k]? with
              | true, some v => some (.inl (pc + len, lv, v :: r, hp, nc, ns))
              | _, _ => none
            | _ => none
          | _, _ => none
        | .putfield idx => match px_find idx (px_cp M), st with
          | some (0, ci, k, fl), v :: .ref a :: r => match hp[a]?, T.2[ci]? with
            | some (.inr (c, fs)), some (_, tys) => match Nat.beq c ci, tys[k]?, decide (k < fs.length), decide (fl ≤ 2) with
              | true, some ty, true, true => match px_fits ty v with
                | true => some (.inl (pc + len, lv, r, hp.set a (.inr (ci, fs.set k v)), nc, ns))
                | false => none
              | _, _, _, _ => none
            | _, _ => none
          | _, _ => none
        | .arraylength => match st with
          | .retAddr _ :: r => match X with
            | some X => some (.inl (pc + len, lv, .int (Int32.ofNat X.1) :: r, hp, nc, ns))
            | none => none
          | .ref a :: r => match hp[a]? with
            | some (.inl (t, n, _)) => match T.1[t]? with
              | some _ => some (.inl (pc + len, lv, .int (Int32.ofNat n) :: r, hp, nc, ns))
              | none => none
            | _ => none
          | _ => none
        | .iaload => match st with
          | .int j :: a :: r => (px_ald T X i hp a j).map fun v => .inl (pc + len, lv, v :: r, hp, nc, ns)
          | _ => none
        | .baload => match st with
          | .int j :: a :: r => (px_ald T X i hp a j).map fun v => .inl (pc + len, lv, v :: r, hp, nc, ns)
          | _ => none
        | .laload => match st with
          | .int j :: a :: r => (px_ald T X i hp a j).map fun v => .inl (pc + len, lv, v :: r, hp, nc, ns)
          | _ => none
        | .aaload => match st with
          | .int j :: a :: r => (px_ald T X i hp a j).map fun v => .inl (pc + len, lv, v :: r, hp, nc, ns)
          | _ => none
        | .iastore => match st with
          | v :: .int j :: .ref a :: r => (px_ast T i hp a j v).map fun hp' => .inl (pc + len, lv, r, hp', nc, ns)
          | _ => none
        | .bastore => match st with
          | v :: .int j :: .ref a :: r => (px_ast T i hp a j v).map fun hp' => .inl (pc + len, lv, r, hp', nc, ns)
          | _ => none
        | .lastore => match st with
          | v :: .int j :: .ref a :: r => (px_ast T i hp a j v).map fun hp' => .inl (pc + len, lv, r, hp', nc, ns)
          | _ => none
        | .invokevirtual idx => match px_find idx (px_cp M) with
          | some (1, mi, n, ci) => match st[n]? with
            | some (.ref a) => match hp[a]? with
              | some (.inr (c, _)) => match Nat.beq c ci.toNat with
                | true => inv (n + 1) mi
                | false => none
              | _ => none
            | _ => none
          | _ => none
        | .invokestatic idx => match px_find idx (px_cp M) with
          | some (2, mi, n, _) => inv n mi
          | _ => none
        | .invokespecial idx => match px_find idx (px_cp M) with
          | some (7, _, _, _) => match st with
            | .ref _ :: r => match decide ((r.map fun v => v.category).sum ≤ 8) with
              | true => some (.inl (pc + 3, lv, r, hp, nc, ns))
              | false => none
            | _ => none
          | some (8, mi, n, _) => match st[n]? with
            | some (.ref _) => inv (n + 1) mi
            | _ => none
          | _ => none
        | .new idx => match px_find idx (px_cp M) with
          | some (5, ci, _, _) => match T.2[ci]? with
            | some (n, tys) => match decide (nc + 1 ≤ (px_rm M).cells), decide (ns + n ≤ (px_rm M).slots), decide (hp.length = N0 + nc) with
              | true, true, true => some (.inl (pc + 3, lv, .ref hp.length :: st, hp ++ [.inr (ci, tys.map defaultValue)], nc + 1, ns + n))
              | _, _, _ => none
            | none => none
          | _ => none
        | .newarray aty => match px_find (100000 + pc) (px_cp M), st with
          | some (6, t, _, _), .int n :: r => match T.1[t]?, decide (0 ≤ n.toInt), decide (n.toInt ≤ 100000), decide (nc + 1 ≤ (px_rm M).cells), decide (ns + n.toNatClampNeg ≤ (px_rm M).slots), decide (hp.length = N0 + nc) with
            | some ty, true, true, true, true, true => match decide (newarray.typeOf aty = ty), px_dflt n.toNatClampNeg ty with
              | true, some a0 => some (.inl (pc + 2, lv, .ref hp.length :: r, hp ++ [.inl (t, a0)], nc + 1, ns + n.toNatClampNeg))
              | _, _ => none
            | _, _, _, _, _, _ => none
          | _, _ => none
        | .anewarray idx => match px_find (100000 + pc) (px_cp M), px_find idx (px_cp M), st with
          | some (6, t, _, _), some (9, t', _, _), .int n :: r => match T.1[t]?, Nat.beq t t', decide (0 ≤ n.toInt), decide (n.toInt ≤ 100000), decide (nc + 1 ≤ (px_rm M).cells), decide (ns + n.toNatClampNeg ≤ (px_rm M).slots), decide (hp.length = N0 + nc) with
            | some (.object _), true, true, true, true, true, true => some (.inl (pc + 3, lv, .ref hp.length :: r, hp ++ [.inl (t, n.toNatClampNeg, .inr (.inr (.inr (.inr (fun _ => none)))))], nc + 1, ns + n.toNatClampNeg))
            | _, _, _, _, _, _, _ => none
          | _, _, _ => none
        | .aastore => match st with
          | .ref v :: .int j :: .ref a :: r => match hp[a]?, hp[v]? with
            | some (.inl (t, n, .inr (.inr (.inr (.inr f))))), some (.inr (ci, _)) => match px_inR j n, T.1[t]?, T.2[ci]? with
              | true, some (.object _), some _ => match px_find (200000 + t) (px_cp M) with
                | some (10, ci', t', _) => match Nat.beq ci ci' && Nat.beq t t' with
                  | true => some (.inl (pc + 1, lv, r, hp.set a (.inl (t, n, .inr (.inr (.inr (.inr (va_up f j.toNatClampNeg (some v))))))), nc, ns))
                  | false => none
                | _ => none
              | _, _, _ => none
            | _, _ => none
          | _ => none
        | .ireturn => match st, px_rt M, decide (nc ≤ (px_rm M).cells), decide (ns ≤ (px_rm M).slots) with
          | [.int v], some ty, true, true => match px_zr ty v with
            | true => some (.inr (some (.int v), hp))
            | false => none
          | _, _, _, _ => none
        | .lreturn => match st, px_rt M, decide (nc ≤ (px_rm M).cells), decide (ns ≤ (px_rm M).slots) with
          | [.long v], some .long, true, true => some (.inr (some (.long v), hp))
          | _, _, _, _ => none
        | .return_ => match st, px_rt M, decide (nc ≤ (px_rm M).cells), decide (ns ≤ (px_rm M).slots) with
          | [], none, true, true => some (.inr (none, hp))
          | _, _, _, _ => none
        | _ => none
def px_run (T : px_T) (X : Option (Nat × (Nat → Int32))) (P : List px_M) (call : Nat → List Value → px_H → Option px_A) (M : px_M) (N0 : Nat) : Nat → px_S → Option px_A
  | 0, _ => none
  | n + 1, s => match px_step T X P call M N0 s with
    | none => none
    | some (.inl s') => px_run T X P call M N0 n s'
    | some (.inr r) => some r
/-- a call; 'Spc' tells what the methods do that are proved otherwise -/
def px_call (T : px_T) (P : List px_M) (Spc : Nat → List Value → px_H → Option px_A) : Nat → Nat → List Value → px_H → Option px_A
  | 0, _, _, _ => none
  | n + 1, mi, av, hp => match Spc mi av hp with
    | some r => some r
    | none => match P[mi]? with
      | none => none
      | some M => match decide ((lg_sl av).length ≤ px_ml M) with
        | false => none
        | true => px_run T none P (px_call T P Spc n) M hp.length n (0, lv_args 0 av, [], hp, 0, 0)
end
section
/-! the pure world and the machine's: cell k lies at base + k, the script at b -/
def px_tr (base b : Nat) : Value → Value
  | .ref k => .ref (base + k)
  | .retAddr _ => .ref b
  | v => v
def px_trA (base : Nat) : vp_A → vp_A
  | (n, .inr (.inr (.inr (.inr f)))) => (n, .inr (.inr (.inr (.inr (fun j => (f j).map (fun q => base + q))))))
  | a => a
def px_trE (base b : Nat) (dA : Nat → ClassId) : px_E → va_E
  | .inl q => .inl (dA q.1, px_trA base q.2)
  | .inr q => .inr (q.1, q.2.map (px_tr base b))
def px_trH (base b : Nat) (dA : Nat → ClassId) (hp : px_H) : va_W := hp.mapIdx (fun k x => (base + k, px_trE base b dA x))
theorem px_cat (base b : Nat) (v : Value) : (px_tr base b v).category = v.category := by cases v <;> rfl
theorem px_trH_get {base b : Nat} {dA : Nat → ClassId} {hp : px_H} {k : Nat} {x : px_E} (h : hp[k]? = some x) : (px_trH base b dA hp)[k]? = some (base + k, px_trE base b dA x) := by
  simp [px_trH, List.getElem?_mapIdx, h]
theorem px_trH_set (base b : Nat) (dA : Nat → ClassId) (hp : px_H) (k : Nat) (x : px_E) : (px_trH base b dA hp).set k (base + k, px_trE base b dA x) = px_trH base b dA (hp.set k x) := by
  simp [px_trH, List.mapIdx_set]
theorem px_trH_push (base b : Nat) (dA : Nat → ClassId) (hp : px_H) (x : px_E) : px_trH base b dA (hp ++ [x]) = px_trH base b dA hp ++ [(base + hp.length, px_trE base b dA x)] := by
  simp [px_trH, List.mapIdx_append]
theorem px_trH_D (base b : Nat) (dA : Nat → ClassId) (hp : px_H) : va_D (fun q => base ≤ q) (px_trH base b dA hp) := by
  refine ⟨fun i j p q hi hj h => ?_, fun k q hk => ?_⟩
  · simp only [px_trH, List.getElem?_mapIdx, Option.map_eq_some_iff] at hi hj
    obtain ⟨x, -, rfl⟩ := hi
    obtain ⟨y, -, rfl⟩ := hj
    simp only at h
    omega
  · simp only [px_trH, List.getElem?_mapIdx, Option.map_eq_some_iff] at hk
    obtain ⟨x, -, rfl⟩ := hk
    simp only
    omega
theorem px_find_mem {α : Type} {k : Nat} {l : List (Nat × α)} {v : α} (h : px_find k l = some v) : (k, v) ∈ l := by
  induction l with
  | nil => cases h
  | cons q r ih =>
    unfold px_find at h
    split at h
    · rename_i hq
      cases h
      have := Nat.eq_of_beq_eq_true hq
      subst this
      exact List.mem_cons_self
    · exact List.mem_cons_of_mem _ (ih h)
abbrev px_trL (base b : Nat) (lv : List (Nat × Value)) : List (Nat × Value) := lv.map (fun q => (q.1, px_tr base b q.2))
theorem px_trL_find {base b j : Nat} {lv : List (Nat × Value)} {v : Value} {ls : Array Slot} {nL : Nat} (hl : lv_has ls nL (px_trL base b lv)) (h : px_find j lv = some v) : ls[j]? = some (.val (px_tr base b v)) :=
  hl.2.2 (j, px_tr base b v) (List.mem_map.mpr ⟨(j, v), px_find_mem h, rfl⟩)
theorem px_trL_mem {base b j : Nat} {lv : List (Nat × Value)} {v : Value} (h : px_find j lv = some v) : ∃ k : Nat, (px_trL base b lv)[k]? = some (j, px_tr base b v) :=
  List.getElem?_of_mem (List.mem_map.mpr ⟨(j, v), px_find_mem h, rfl⟩)
theorem px_trL_st1 (base b : Nat) (lv : List (Nat × Value)) (j : Nat) (v : Value) : (j, px_tr base b v) :: (px_trL base b lv).filter (fun q => !(q.1 == j) && !(q.1 + 1 == j && q.2.category == 2)) = px_trL base b (px_st1 lv j v) := by
  simp [px_trL, px_st1, List.filter_map, Function.comp_def, px_cat]
theorem px_trL_st2 (base b : Nat) (lv : List (Nat × Value)) (j : Nat) (v : Value) : (j, px_tr base b v) :: (px_trL base b lv).filter (fun q => !(q.1 == j) && (!(q.1 == j + 1) && !(q.1 + 1 == j && q.2.category == 2))) = px_trL base b (px_st2 lv j v) := by
  simp [px_trL, px_st2, List.filter_map, Function.comp_def, px_cat]
theorem px_lv_args (base b : Nat) : ∀ (vs : List Value) (i : Nat), lv_args i (vs.map (px_tr base b)) = px_trL base b (lv_args i vs) := by
  intro vs
  induction vs with
  | nil => intro i; rfl
  | cons v vs ih =>
    intro i
    simp only [List.map_cons, lv_args, px_cat, px_trL] at ih ⊢
    rw [ih]
theorem px_lg_sl (base b : Nat) (vs : List Value) : (lg_sl (vs.map (px_tr base b))).length = (lg_sl vs).length := by
  induction vs with
  | nil => rfl
  | cons v vs ih =>
    simp only [lg_sl, List.map_cons, List.flatMap_cons, List.length_append, px_cat] at ih ⊢
    rw [ih]
    split <;> simp
/-- the length of an instruction -/
def px_len (i : Instr) : Nat :=
  match i with
  | .bipush _ => 2
  | .sipush _ => 3
  | .iload _ => 2
  | .lload _ => 2
  | .aload _ => 2
  | .istore _ => 2
  | .lstore _ => 2
  | .astore _ => 2
  | .iinc _ _ => 3
  | .ifCond _ _ => 3
  | .if_icmp _ _ => 3
  | .goto _ => 3
  | .ldc _ => 2
  | .ldc_w _ => 3
  | .ldc2_w _ => 3
  | .getfield _ => 3
  | .putfield _ => 3
  | .invokevirtual _ => 3
  | .invokestatic _ => 3
  | .invokespecial _ => 3
  | .new _ => 3
  | .newarray _ => 2
  | .anewarray _ => 3
  | _ => 1
section px_s1
variable {p : Program} {l : Launch} {e : Env} {R : Room} {s : State} {m : MethodId} {args : Array Value} {below : List Frame} {meth : Method} {c : Code} {H : Heap} {locs : List Loc} {cells slots : Nat} {Q : State → Prop}
variable {cc : ByteArray} {pc len : Nat} {ls : Array Slot} {base b : Nat}
theorem px_ii_some {f : Int32 → Int32 → Int32} {st st' : List Value} (h : px_ii f st = some st') : ∃ x y r, st = .int y :: .int x :: r ∧ st' = .int (f x y) :: r := by
  unfold px_ii at h
  split at h
  · cases h; exact ⟨_, _, _, rfl, rfl⟩
  · cases h
theorem px_iiz_some {f : Int32 → Int32 → Int32} {st st' : List Value} (h : px_iiz f st = some st') : ∃ x y r, st = .int y :: .int x :: r ∧ st' = .int (f x y) :: r ∧ ¬ y = 0 := by
  unfold px_iiz at h
  split at h
  · split at h
    · cases h
    · cases h; exact ⟨_, _, _, rfl, rfl, by assumption⟩
  · cases h
theorem px_ll_some {f : Int64 → Int64 → Int64} {st st' : List Value} (h : px_ll f st = some st') : ∃ x y r, st = .long y :: .long x :: r ∧ st' = .long (f x y) :: r := by
  unfold px_ll at h
  split at h
  · cases h; exact ⟨_, _, _, rfl, rfl⟩
  · cases h
theorem px_llz_some {f : Int64 → Int64 → Int64} {st st' : List Value} (h : px_llz f st = some st') : ∃ x y r, st = .long y :: .long x :: r ∧ st' = .long (f x y) :: r ∧ ¬ y = 0 := by
  unfold px_llz at h
  split at h
  · split at h
    · cases h
    · cases h; exact ⟨_, _, _, rfl, rfl, by assumption⟩
  · cases h
theorem px_li_some {f : Int64 → Int32 → Int64} {st st' : List Value} (h : px_li f st = some st') : ∃ x y r, st = .int y :: .long x :: r ∧ st' = .long (f x y) :: r := by
  unfold px_li at h
  split at h
  · cases h; exact ⟨_, _, _, rfl, rfl⟩
  · cases h
theorem px_i1_some {f : Int32 → Value} {st st' : List Value} (h : px_i1 f st = some st') : ∃ x r, st = .int x :: r ∧ st' = f x :: r := by
  unfold px_i1 at h
  split at h
  · cases h; exact ⟨_, _, rfl, rfl⟩
  · cases h
theorem px_l1_some {f : Int64 → Value} {st st' : List Value} (h : px_l1 f st = some st') : ∃ x r, st = .long x :: r ∧ st' = f x :: r := by
  unfold px_l1 at h
  split at h
  · cases h; exact ⟨_, _, rfl, rfl⟩
  · cases h
theorem px_lc_some {st st' : List Value} (h : px_lc st = some st') : ∃ x y r, st = .long y :: .long x :: r ∧ st' = .int (lg_cmp x y) :: r := by
  unfold px_lc at h
  split at h
  · cases h; exact ⟨_, _, _, rfl, rfl⟩
  · cases h
set_option maxHeartbeats 4000000 in
theorem px_alu_sim (hx : p.tables.exec = Jvm.exec) (hb : c.code = cc) {i : Instr} (hd : decode cc pc = .ok (i, len)) (hlen : len = px_len i) {st st' : List Value} (ha : px_alu i st = some st')
    (k : W p l e R s m args below meth c H locs cells slots Q (F0 m (pc + len) ls (st'.map (px_tr base b)))) : W p l e R s m args below meth c H locs cells slots Q (F0 m pc ls (st.map (px_tr base b))) := by
  subst hlen
  cases i
  case iconst n => cases ha; exact lv_iconst hx hb hd rfl k
  case bipush n => cases ha; exact lv_bipush hx hb hd rfl k
  case sipush n => cases ha; exact lv_sipush hx hb hd rfl k
  case lconst n => cases ha; exact lv_lconst hx hb hd rfl k
  case iadd => obtain ⟨x, y, r, rfl, rfl⟩ := px_ii_some ha; exact lv_iadd hx hb hd k
  case isub => obtain ⟨x, y, r, rfl, rfl⟩ := px_ii_some ha; exact lv_isub hx hb hd k
  case imul => obtain ⟨x, y, r, rfl, rfl⟩ := px_ii_some ha; exact lv_imul hx hb hd k
  case iand => obtain ⟨x, y, r, rfl, rfl⟩ := px_ii_some ha; exact lv_iand hx hb hd k
  case ior => obtain ⟨x, y, r, rfl, rfl⟩ := px_ii_some ha; exact lv_ior hx hb hd k
  case ixor => obtain ⟨x, y, r, rfl, rfl⟩ := px_ii_some ha; exact lv_ixor hx hb hd k
  case ishl => obtain ⟨x, y, r, rfl, rfl⟩ := px_ii_some ha; exact lv_ishl hx hb hd k
  case ishr => obtain ⟨x, y, r, rfl, rfl⟩ := px_ii_some ha; exact lv_ishr hx hb hd k
  case iushr => obtain ⟨x, y, r, rfl, rfl⟩ := px_ii_some ha; exact lv_iushr hx hb hd rfl k
  case idiv => obtain ⟨x, y, r, rfl, rfl, hy⟩ := px_iiz_some ha; exact lv_idiv hx hb hd hy k
  case irem => obtain ⟨x, y, r, rfl, rfl, hy⟩ := px_iiz_some ha; exact lv_irem hx hb hd hy k
  case ladd => obtain ⟨x, y, r, rfl, rfl⟩ := px_ll_some ha; exact lv_ladd hx hb hd k
  case lsub => obtain ⟨x, y, r, rfl, rfl⟩ := px_ll_some ha; exact lv_lsub hx hb hd k
  case lmul => obtain ⟨x, y, r, rfl, rfl⟩ := px_ll_some ha; exact lv_lmul hx hb hd k
  case land => obtain ⟨x, y, r, rfl, rfl⟩ := px_ll_some ha; exact lv_land hx hb hd k
  case lor => obtain ⟨x, y, r, rfl, rfl⟩ := px_ll_some ha; exact lv_lor hx hb hd k
  case lxor => obtain ⟨x, y, r, rfl, rfl⟩ := px_ll_some ha; exact lv_lxor hx hb hd k
  case ldiv => obtain ⟨x, y, r, rfl, rfl, hy⟩ := px_llz_some ha; exact lv_ldiv hx hb hd hy k
  case lshl => obtain ⟨x, y, r, rfl, rfl⟩ := px_li_some ha; exact lv_lshl hx hb hd rfl k
  case lshr => obtain ⟨x, y, r, rfl, rfl⟩ := px_li_some ha; exact lv_lshr hx hb hd rfl k
  case lushr => obtain ⟨x, y, r, rfl, rfl⟩ := px_li_some ha; exact lv_lushr hx hb hd rfl k
  case ineg => obtain ⟨x, r, rfl, rfl⟩ := px_i1_some ha; exact lv_ineg hx hb hd k
  case i2l => obtain ⟨x, r, rfl, rfl⟩ := px_i1_some ha; exact lv_i2l hx hb hd rfl k
  case i2b => obtain ⟨x, r, rfl, rfl⟩ := px_i1_some ha; exact lv_i2b hx hb hd rfl k
  case i2s => obtain ⟨x, r, rfl, rfl⟩ := px_i1_some ha; exact lv_i2s hx hb hd rfl k
  case l2i => obtain ⟨x, r, rfl, rfl⟩ := px_l1_some ha; exact lv_l2i hx hb hd rfl k
  case lcmp => obtain ⟨x, y, r, rfl, rfl⟩ := px_lc_some ha; exact W.lcmp hx hb hd k
  case dup =>
    simp only [px_alu, px_dup] at ha
    split at ha
    · split at ha
      · cases ha
        exact lv_dup hx hb hd (by rw [px_cat]; assumption) k
      · cases ha
    · cases ha
  case dup_x1 =>
    simp only [px_alu, px_dup_x1] at ha
    split at ha
    · split at ha
      · rename_i h
        cases ha
        exact lv_dup_x1 hx hb hd (by rw [px_cat]; exact h.1) (by rw [px_cat]; exact h.2) k
      · cases ha
    · cases ha
  case dup_x2 =>
    simp only [px_alu, px_dup_x2] at ha
    split at ha
    · split at ha
      · rename_i h
        cases ha
        exact lv_dup_x2 hx hb hd (by rw [px_cat]; exact h.1) (by rw [px_cat]; exact h.2.1) (by rw [px_cat]; exact h.2.2) k
      · cases ha
    · cases ha
  case dup2 =>
    simp only [px_alu, px_dup2] at ha
    split at ha
    · cases ha
    · split at ha
      · cases ha
        exact lv_dup2_2 hx hb hd (by rw [px_cat]; assumption) k
      · split at ha
        · cases ha
        · split at ha
          · rename_i h
            cases ha
            exact lv_dup2_11 hx hb hd (by rw [px_cat]; exact h.1) (by rw [px_cat]; exact h.2) k
          · cases ha
  case dup2_x1 =>
    simp only [px_alu, px_dup2_x1] at ha
    split at ha
    · split at ha
      · rename_i h
        cases ha
        exact lv_dup2_x1_2 hx hb hd (by rw [px_cat]; exact h.1) (by rw [px_cat]; exact h.2) k
      · cases ha
    · cases ha
  case dup2_x2 =>
    simp only [px_alu, px_dup2_x2] at ha
    split at ha
    · split at ha
      · rename_i h
        cases ha
        exact lv_dup2_x2_2 hx hb hd (by rw [px_cat]; exact h.1) (by rw [px_cat]; exact h.2.1) (by rw [px_cat]; exact h.2.2) k
      · cases ha
    · cases ha
  case pop =>
    simp only [px_alu, px_pop] at ha
    split at ha
    · split at ha
      · cases ha
        exact lv_pop hx hb hd (by rw [px_cat]; assumption) k
      · cases ha
    · cases ha
  case pop2 =>
    simp only [px_alu, px_pop2] at ha
    split at ha
    · split at ha
      · cases ha
        exact lv_pop2_2 hx hb hd (by rw [px_cat]; assumption) k
      · cases ha
    · cases ha
  all_goals cases ha
end px_s1
end
section
/-! the static checks -/
def px_okI (pc len : Nat) (i : Instr) : Bool :=
  match i with
  | .ifCond _ off => decide (len = 3) && decide (0 ≤ (pc : Int) + off)
  | .if_icmp _ off => decide (len = 3) && decide (0 ≤ (pc : Int) + off)
  | .goto off => decide (len = 3) && decide (0 ≤ (pc : Int) + off)
  | .tableswitch dflt _ _ offs => decide (0 ≤ (pc : Int) + dflt) && offs.toList.all (fun off => decide (0 ≤ (pc : Int) + off))
  | .lookupswitch dflt ps => (ps.toList.zip (ps.toList.drop 1)).all (fun q => decide (q.1.1 < q.2.1)) && decide (0 ≤ (pc : Int) + dflt) && ps.toList.all (fun q => decide (0 ≤ (pc : Int) + q.2))
  | i => decide (len = px_len i)
def px_okC (M : px_M) : Bool := (px_cd M).all fun q => decide (decode (px_by M) q.1 = .ok (q.2.2, q.2.1)) && px_okI q.1 q.2.1 q.2.2
/-- a word by its code -/
abbrev px_Cw : Type := Nat × List Nat × Int
def px_w (ow : List String) (cl : List vw_C) (T : px_T) (P : List px_M) (host : String) (q : px_Cw) : Cond :=
  match q with
  | (0, [o, idx, ci, k], _) => match cl[ci]? with
    | some (_, F, _) => .fieldLink (ow.getD o "") idx (F k).1 (F k).2.1 (F k).2.2.1
    | none => .tt
  | (1, [o, idx, mi], _) => match P[mi]? with
    | some N => .methodLink (ow.getD o "") idx (px_nm N)
    | none => .tt
  | (2, [mi], _) => match P[mi]? with
    | some N => .code (px_nm N) (px_by N) (px_ml N) (px_rt N)
    | none => .tt
  | (3, [mi], _) => match P[mi]? with
    | some N => .instanceMethod (px_nm N)
    | none => .tt
  | (4, [mi], _) => match P[mi]? with
    | some N => .static (px_nm N)
    | none => .tt
  | (5, [mi], _) => match P[mi]? with
    | some N => .selects (px_nm N).cls (px_nm N) (px_nm N)
    | none => .tt
  | (6, [mi], _) => match P[mi]? with
    | some N => .initialized (px_nm N).cls
    | none => .tt
  | (7, [o, idx], v) => .constant (ow.getD o "") idx (Int32.ofInt v)
  | (8, [o, idx], v) => .constantLong (ow.getD o "") idx (Int64.ofInt v)
  | (9, [o, idx, ci], _) => match cl[ci]? with
    | some (C, _, _) => .classLink (ow.getD o "") idx C
    | none => .tt
  | (10, [ci], _) => match cl[ci]? with
    | some (C, _, N) => .instantiable C N
    | none => .tt
  | (11, [ci], _) => match cl[ci]? with
    | some (C, _, _) => .initialized C
    | none => .tt
  | (12, [t], _) => match T.1[t]? with
    | some ty => .arrayClass ty
    | none => .tt
  | (13, [o, idx], _) => .methodLink (ow.getD o "") idx objectInit
  | (14, [], _) => .instanceMethod objectInit
  | (15, [], _) => .code objectInit ⟨#[0xb1]⟩ 1 none
  | (16, [ci, k], _) => match cl[ci]? with
    | some (C, F, _) => u_lay C F k
    | none => .tt
  | (17, [o, idx, t], _) => match T.1[t]? with
    | some (.object C) => .classLink (ow.getD o "") idx C
    | _ => .tt
  | (20, [o, idx, mi], _) => match P[mi]? with
    | some N => .methodLinkNest (ow.getD o "") idx (px_nm N) host
    | none => .tt
  | (21, [t], _) => match T.1[t]? with
    | some ty => .arrayOver ty
    | none => .tt
  | _ => .tt
/-- of each method: its kind (0 static, 1 instance, 2 constructor), its arguments, its class's number -/
def px_Mf (cl : List vw_C) (P : List px_M) (mf : List (Nat × Nat × Nat)) : Prop :=
  ∀ (mi : Nat) (N : px_M) (k n ci : Nat), P[mi]? = some N → mf[mi]? = some (k, n, ci) →
    ((px_nm N).cls ≠ "java/lang/invoke/MethodHandle" ∧ (px_nm N).cls ≠ "java/lang/invoke/VarHandle" ∧ (parseMethodDescriptor (px_nm N).desc).map (fun d => d.parameters.length) = some n) ∧
    (k = 1 → ∀ (C : String) (F : u_T) (N9 : Nat), cl[ci]? = some (C, F, N9) → C = (px_nm N).cls) ∧ (k = 2 → (px_nm N).name = "<init>" ∧ px_rt N = none ∧ ∀ (C : String) (F : u_T) (N9 : Nat), cl[ci]? = some (C, F, N9) → C = (px_nm N).cls)
/-- a callee's words and room, at this method -/
def px_okN (CW : List px_Cw) (mf : List (Nat × Nat × Nat)) (M N : px_M) (mi n k ci : Nat) : Bool :=
  match mf[mi]? with
  | some (k', n', ci') => Nat.beq k k' && Nat.beq n n' && (Nat.beq k 0 || Nat.beq ci ci') && decide (((2, [mi], 0) : px_Cw) ∈ CW) && decide (((6, [mi], 0) : px_Cw) ∈ CW)
    && decide ((px_rm N).frames + 1 ≤ (px_rm M).frames ∧ 8 + (px_ml N + 11) + (px_rm N).locals ≤ (px_rm M).locals)
  | none => false
def px_okR (cl : List vw_C) (T : px_T) (P : List px_M) (CW CE : List px_Cw) (mf : List (Nat × Nat × Nat)) (o kM cM : Nat) (M : px_M) (q : Nat × px_R) : Bool :=
  match q with
  | (idx, 0, ci, k, fl) => match cl[ci]? with
    | some (_, F, N) => decide (k < N) && decide (((0, [o, idx, ci, k], 0) : px_Cw) ∈ CW) && (decide (2 ≤ fl) || !(F k).2.2.2) && (!(decide (fl = 2)) || (Nat.beq kM 2 && Nat.beq cM ci))
    | none => false
  | (idx, 1, mi, n, ci) => match P[mi]? with
    | some N => px_okN CW mf M N mi n 1 ci.toNat && decide (((3, [mi], 0) : px_Cw) ∈ CW) && decide (((5, [mi], 0) : px_Cw) ∈ CW) && decide (((1, [o, idx, mi], 0) : px_Cw) ∈ CW)
    | none => false
  | (idx, 2, mi, n, _) => match P[mi]? with
    | some N => px_okN CW mf M N mi n 0 0 && decide (((4, [mi], 0) : px_Cw) ∈ CW) && decide (((1, [o, idx, mi], 0) : px_Cw) ∈ CW)
    | _ => false
  | (idx, 3, _, _, v) => decide (((7, [o, idx], v) : px_Cw) ∈ CW)
  | (idx, 4, _, _, v) => decide (((8, [o, idx], v) : px_Cw) ∈ CW)
  | (idx, 5, ci, _, _) => decide (((9, [o, idx, ci], 0) : px_Cw) ∈ CW) && decide (((10, [ci], 0) : px_Cw) ∈ CW) && decide (((11, [ci], 0) : px_Cw) ∈ CW)
  | (_, 6, t, _, _) => match T.1[t]? with
    | some (.object _) => true
    | some _ => decide (((12, [t], 0) : px_Cw) ∈ CW)
    | none => false
  | (idx, 7, _, _, _) => decide (((13, [o, idx], 0) : px_Cw) ∈ CW) && decide (((14, [], 0) : px_Cw) ∈ CW) && decide (((15, [], 0) : px_Cw) ∈ CW) && decide (1 ≤ (px_rm M).frames) && decide (20 ≤ (px_rm M).locals)
  | (idx, 8, mi, n, v) => match P[mi]? with
    | some N => px_okN CW mf M N mi n 2 v.toNat && decide (((3, [mi], 0) : px_Cw) ∈ CW) && (decide (((1, [o, idx, mi], 0) : px_Cw) ∈ CW) || decide (((20, [o, idx, mi], 0) : px_Cw) ∈ CE))
    | _ => false
  | (idx, 9, t, _, _) => match T.1[t]? with
    | some (.object _) => decide (((17, [o, idx, t], 0) : px_Cw) ∈ CW) && decide (((21, [t], 0) : px_Cw) ∈ CE)
    | _ => false
  | (_, 10, ci, t, _) => match cl[ci]?, T.1[t]? with
    | some (C, _, _), some (.object C') => decide (C' = C)
    | _, _ => false
  | _ => false
def px_okM (cl : List vw_C) (T : px_T) (P : List px_M) (CW CE : List px_Cw) (mf : List (Nat × Nat × Nat)) (o kM cM : Nat) (M : px_M) : Bool := px_okC M && (px_cp M).all (px_okR cl T P CW CE mf o kM cM M)
/-- the classes: their field tables, types and words -/
def px_okK (cl : List vw_C) (T : px_T) (ALL : List Cond) : Prop :=
  ∀ (ci : Nat) (C : String) (F : u_T) (N : Nat), cl[ci]? = some (C, F, N) → ∃ tys : List FieldType, T.2[ci]? = some (N, tys) ∧ tys.length = N ∧ (∀ k, k < N → parseFieldDescriptor (F k).2.2.1 = some (tys.getD k .int)) ∧ (∀ a, a < N → ∀ b, b < N → a ≠ b → (F a).2.1 ≠ (F b).2.1) ∧ (∀ w ∈ u_ws C F N, w ∈ ALL) ∧ (∀ k, k < N → (F k).1 = C)
def px_tys (T : px_T) (dA : Nat → ClassId) : List (ClassId × FieldType) := T.1.mapIdx (fun t ty => (dA t, ty))
theorem px_tys_get {T : px_T} {dA : Nat → ClassId} {t : Nat} {ty : FieldType} (h : T.1[t]? = some ty) : (px_tys T dA)[t]? = some (dA t, ty) := by simp [px_tys, List.getElem?_mapIdx, h]
def px_ws (ALL : List Cond) (N : px_M) : List Cond := .code (px_nm N) (px_by N) (px_ml N) (px_rt N) :: ALL
def px_Rel (base b : Nat) (D : va_G) (cl : List vw_C) (dA : Nat → ClassId) (hp : px_H) (H : Heap) : Prop := va_P D cl (px_trH base b dA hp) H
/-- the words that warm otherwise than the tables' -/
def px_isX : Cond → Bool
  | .fieldLinkNest .. => true
  | .methodLinkNest .. => true
  | .arrayOver (.object _) => true
  | _ => false
def px_Ex (EXT : List Cond) (U : State) : Prop := ∀ w ∈ EXT, w.before #[] U = true
theorem px_Ex.moved {EXT : List Cond} (hE : ∀ w ∈ EXT, px_isX w = true) {s U : State} (hW : s.WarmedH U.vm) (h : px_Ex EXT s) : px_Ex EXT U := by
  intro w hw
  have h1 := h w hw
  have h2 := hE w hw
  unfold px_isX at h2
  split at h2
  · exact va_Nw.warmF hW h1
  · exact va_Nw.warmM hW h1
  · exact va_AO.moved hW.alike h1
  · cases h2
theorem px_Ex.same {EXT : List Cond} (hE : ∀ w ∈ EXT, px_isX w = true) {s U : State} (hvm : s.vm = U.vm) (h : px_Ex EXT s) : px_Ex EXT U := by
  intro w hw
  have h1 := h w hw
  have h2 := hE w hw
  unfold px_isX at h2
  split at h2
  · exact va_Nw.same rfl hvm h1
  · exact va_Nw.same rfl hvm h1
  · exact va_AO.moved (by rw [hvm]; exact Vm.Alike.refl U.vm) h1
  · cases h2
def px_Pc (EXT : List Cond) (base b : Nat) (D : va_G) (cl : List vw_C) (T : px_T) (dA : Nat → ClassId) (nc : Nat) (av : List Value) (hp : px_H) : Array Value → State → Prop := fun v U => v = (av.map (px_tr base b)).toArray ∧ px_Rel base b D cl dA hp U.heap ∧ va_K D cl (px_tys T dA) U ∧ px_Ex EXT U ∧ base ≤ U.heap.size ∧ (nc ≠ 0 → U.heap.size = base + hp.length)
def px_Qc (base b : Nat) (D : va_G) (cl : List vw_C) (dA : Nat → ClassId) (r : Option Value) (hp' : px_H) : Array Value → State → Outcome → State → Prop := fun _ st o t => o = .returned (r.map (px_tr base b)) ∧ px_Rel base b D cl dA hp' t.heap ∧ va_F (fun q => base ≤ q) st t
def px_Met (l : Launch) (base b : Nat) (D : va_G) (cl : List vw_C) (T : px_T) (dA : Nat → ClassId) (ALL EXT : List Cond) (N : px_M) (av : List Value) (hp : px_H) (r : Option Value) (hp' : px_H) : Prop :=
  Met l (px_nm N) (px_ws ALL N) (px_rm N) (px_Pc EXT base b D cl T dA (px_rm N).cells av hp) (px_Qc base b D cl dA r hp') (px_rm N).cells (px_rm N).slots (fun q => base ≤ q)
theorem px_blind {EXT : List Cond} (hEx : ∀ w ∈ EXT, px_isX w = true) (base b : Nat) (D : va_G) (cl : List vw_C) (T : px_T) (dA : Nat → ClassId) (nc : Nat) (av : List Value) (hp : px_H) : FrameBlind (px_Pc EXT base b D cl T dA nc av hp) := by
  intro a U g mk q
  obtain ⟨q0, q1, q2, q3, q4, q5⟩ := q
  exact ⟨q0, q1, va_K.moved (u := U) (U := U.calling g mk a) (Vm.Alike.refl U.vm) q2, px_Ex.same hEx (s := U) (U := U.calling g mk a) rfl q3, q4, q5⟩
section px_s2
variable {p : Program} {l : Launch} {e : Env} {R : Room} {s : State} {m : MethodId} {args : Array Value} {below : List Frame} {meth : Method} {c : Code} {H : Heap} {locs : List Loc} {cells slots : Nat} {Q : State → Prop}
variable {pc mc ms : Nat} {ls : Array Slot} {A : Nat → Prop} {H0 : Heap}
theorem px_W_size {g : JFrame} (h : H.size ≤ s.heap.size + cells → W p l e R s m args below meth c H locs cells slots Q g) : W p l e R s m args below meth c H locs cells slots Q g := fun T hT X => h (by rw [← hT]; exact X.heapSize) T hT X
theorem px_W_call {st0 rest : List Value} {Qa : State → Outcome → State → Prop} (hr : va_Run p l e R s m args below meth c H locs cells slots mc ms (F0 m pc ls st0) rest Qa A) (hS : va_S A H0 H locs)
    (hF : ∀ st o t, st.heap = H → Qa st o t → va_F A st t)
    (kk : ∀ (v : Option Value) (st t : State) (locs1 : List Loc), st.heap = H → Qa st (.returned v) t → va_S A H0 t.heap locs1 → W p l e R s m args below meth c t.heap locs1 (cells + mc) (slots + ms) Q (F0 m (pc + 3) ls (v.toList ++ rest))) : W p l e R s m args below meth c H locs cells slots Q (F0 m pc ls st0) := by
  intro T hT X
  obtain ⟨v, st₀, t, T', L, h0, X', hL, e1, e2, hQ, st⟩ := hr T hT X
  have hf := hF _ _ _ h0 hQ
  obtain ⟨hz, hk⟩ := hf
  rw [h0] at hz hk
  obtain ⟨t2, a1, b1⟩ := kk v st₀ t (locs ++ L) h0 hQ
    ⟨Nat.le_trans hS.1 hz, fun q h1 h2 => by rw [hk q (Nat.lt_of_lt_of_le h1 hS.1) h2]; exact hS.2.1 q h1 h2, fun q hq => by
      rcases List.mem_append.mp hq with h | h
      · exact hS.2.2 q h
      · exact hL q h⟩ T' e1 X'
  exact ⟨t2, st t2 a1, b1⟩
end px_s2
theorem px_split {st : List Value} {n : Nat} {v : Value} (h : st[n]? = some v) : st = st.take n ++ v :: st.drop (n + 1) := by
  obtain ⟨hlt, rfl⟩ := List.getElem?_eq_some_iff.mp h
  rw [← List.drop_eq_getElem_cons hlt, List.take_append_drop]
theorem px_args {st : List Value} {n a base b : Nat} (h : st[n]? = some (.ref a)) : (st.take (n + 1)).reverse.map (px_tr base b) = Value.ref (base + a) :: ((st.take n).reverse.map (px_tr base b)) := by
  rw [List.take_add_one, h]
  simp [px_tr]
theorem px_stack {st : List Value} {n a base b : Nat} (h : st[n]? = some (.ref a)) : st.map (px_tr base b) = ((st.take n).reverse.map (px_tr base b)).reverse ++ Value.ref (base + a) :: ((st.drop (n + 1)).map (px_tr base b)) := by
  conv => lhs; rw [px_split h]
  simp [px_tr]
theorem px_stackS {st : List Value} {n base b : Nat} : st.map (px_tr base b) = ((st.take n).reverse.map (px_tr base b)).reverse ++ ((st.drop n).map (px_tr base b)) := by
  conv => lhs; rw [← List.take_append_drop n st]
  simp
theorem px_len_take {st : List Value} {n base b : Nat} {v : Value} (h : st[n]? = some v) : ((st.take n).reverse.map (px_tr base b)).length = n := by
  have := (List.getElem?_eq_some_iff.mp h).1
  simp
  omega
theorem px_goodIn {ALL Ts : List Cond} {N : px_M} (hall : ∀ w ∈ ALL, w ∈ Ts) (hgood : ∀ w ∈ ALL, (w.onTables && w.keeps) = true ∨ ∃ ty, w = .arrayClass ty) (hc : Cond.code (px_nm N) (px_by N) (px_ml N) (px_rt N) ∈ ALL) : GoodIn Ts (px_ws ALL N) := by
  intro w hw
  rcases List.mem_cons.mp hw with rfl | h
  · exact ⟨hall _ hc, hgood _ hc⟩
  · exact ⟨hall _ h, hgood _ h⟩
theorem px_low {base b : Nat} {D : va_G} {cl : List vw_C} {dA : Nat → ClassId} {hp : px_H} {H : Heap} (hR : px_Rel base b D cl dA hp H) (hb : base ≤ H.size) : base + hp.length ≤ H.size := by
  rcases Nat.eq_zero_or_pos hp.length with h | h
  · omega
  · obtain ⟨x, hx⟩ : ∃ x, hp[hp.length - 1]? = some x := ⟨_, List.getElem?_eq_getElem (by omega)⟩
    have := (hR _ _ (px_trH_get hx)).lt
    simp only at this
    omega
theorem px_exact {base b : Nat} {D : va_G} {cl : List vw_C} {dA : Nat → ClassId} {hp : px_H} {H : Heap} {N0 nc : Nat} (hR : px_Rel base b D cl dA hp H) (hb : base ≤ H.size) (h : hp.length = N0 + nc) (hle : H.size ≤ base + N0 + nc) : H.size = base + hp.length := by
  have := px_low hR hb
  omega
theorem px_room {m : MethodId} {pc : Nat} {ls : Array Slot} {st0 rest : List Value} {base b : Nat} (h : (rest.map fun v => v.category).sum ≤ 8) : 2 * (F0 m pc ls st0).monitorRoom + ((rest.map (px_tr base b)).map fun v => v.category).sum ≤ 8 := by
  have e : (rest.map (px_tr base b)).map (fun v => v.category) = rest.map (fun v => v.category) := by
    rw [List.map_map]
    exact List.map_congr_left (fun v _ => px_cat base b v)
  rw [e]
  exact lv_room h
theorem px_ret (base b : Nat) (r : Option Value) (st : List Value) : (r.map (px_tr base b)).toList ++ st.map (px_tr base b) = (r.toList ++ st).map (px_tr base b) := by
  cases r <;> rfl
end
section
theorem px_tgt_ok {pc : Nat} {off : Int} (h : 0 ≤ (pc : Int) + off) : (pc : Int) + off = ((px_tgt pc off : Nat) : Int) := by
  unfold px_tgt
  omega
theorem px_alu_len {i : Instr} {st st' : List Value} {pc len : Nat} (h : px_alu i st = some st') (ho : px_okI pc len i = true) : len = px_len i := by
  cases i <;> first | (simpa [px_okI] using ho) | (simp [px_alu] at h)
theorem px_inR_in {j : Int32} {n : Nat} (h : px_inR j n = true) : vp_in j n := by
  rw [vp_in_iff]
  simpa [px_inR] using h
theorem px_fits_ok {ty : FieldType} {v : Value} (base b : Nat) (h : px_fits ty v = true) : narrow ty (px_tr base b v) = px_tr base b v ∧ fits ty (px_tr base b v) = true := by
  unfold px_fits at h
  split at h
  · exact ⟨rfl, rfl⟩
  · exact ⟨rfl, rfl⟩
  · exact ⟨rfl, rfl⟩
  · exact ⟨rfl, rfl⟩
  · cases h
theorem px_getD {α : Type} {l : List α} {k : Nat} {d v : α} (h : l[k]? = some v) : l.getD k d = v := by
  rw [List.getD_eq_getElem?_getD, h]
  rfl
theorem px_trA_fst (base : Nat) (a : vp_A) : (px_trA base a).1 = a.1 := by
  unfold px_trA
  split <;> rfl
theorem px_eqr {R : Room} {s : State} {args : Array Value} {own : String} {index : Nat} {y : MethodName} {bytes : ByteArray} {maxL : Nat} {ret : Option FieldType} {ws : List Cond} {rm : Room} {mc ms n : Nat} (h : ret = none) (k : CallB R s args own index y bytes maxL ret ws rm mc ms n) : CallB R s args own index y bytes maxL none ws rm mc ms n := by subst h; exact k
theorem px_eqn {R : Room} {s : State} {args : Array Value} {own host : String} {index : Nat} {y : MethodName} {bytes : ByteArray} {maxL : Nat} {ret : Option FieldType} {ws : List Cond} {rm : Room} {mc ms n : Nat} (h : ret = none) (k : va_CN R s args own index y host bytes maxL ret ws rm mc ms n) : va_CN R s args own index y host bytes maxL none ws rm mc ms n := by subst h; exact k
theorem px_dv (base b : Nat) (tys : List FieldType) (j : Nat) (h : j < tys.length) : defaultValue (tys.getD j .int) = vp_V ((tys.map defaultValue).map (px_tr base b)) j := by
  have e : ∀ ty : FieldType, px_tr base b (defaultValue ty) = defaultValue ty := by intro ty; cases ty <;> rfl
  simp [vp_V, List.getD_eq_getElem?_getD, h, e]
theorem px_dflt_ok {base n : Nat} {ty : FieldType} {a0 : vp_A} (h : px_dflt n ty = some a0) : (∀ cA : ClassId, vp_cell cA (px_trA base a0) = arrV cA n (fun _ => defaultValue ty)) ∧ a0.1 = n ∧ True := by
  unfold px_dflt at h
  split at h
  · cases h; exact ⟨fun _ => rfl, rfl, trivial⟩
  · cases h; exact ⟨fun _ => rfl, rfl, trivial⟩
  · cases h; exact ⟨fun _ => rfl, rfl, trivial⟩
  · cases h; exact ⟨fun _ => rfl, rfl, trivial⟩
  · cases h
theorem px_clamp {n : Int32} (h0 : 0 ≤ n.toInt) (h1 : n.toInt ≤ 100000) : n.toNatClampNeg ≤ 100000 := by
  have : n.toNatClampNeg = n.toInt.toNat := rfl
  omega
def px_prim (ty : FieldType) : Bool :=
  match ty with
  | .object _ => false
  | _ => true
theorem px_RA {U : State} {cA : ClassId} {ty : FieldType} (hp : px_prim ty = true) (h : va_RA U cA ty) : U.vm.findClass ("[" ++ ty.toString) = some cA := by
  cases ty <;> first | exact h | cases hp
theorem px_upq (base : Nat) (f : Nat → Option Nat) (k v : Nat) : (fun j => (va_up f k (some v) j).map (fun q => base + q)) = va_up (fun j => (f j).map (fun q => base + q)) k (some (base + v)) := by
  funext j
  unfold va_up
  split <;> rfl
theorem px_cb (ty : FieldType) : componentBytes ty ≤ 8 := by cases ty <;> simp [componentBytes]
section px_s3
variable {p : Program} {l : Launch} {e : Env} {R : Room} {s : State} {m : MethodId} {args : Array Value} {below : List Frame} {meth : Method} {c : Code} {H : Heap} {locs : List Loc} {Q : State → Prop}
variable {base b : Nat} {D : va_G} {cl : List vw_C} {T : px_T} {dA : Nat → ClassId} {P : List px_M} {ALL EXT Ts : List Cond} {ow : List String} {CW CE : List px_Cw} {mf : List (Nat × Nat × Nat)} {o kM cM : Nat} {host : String} {M : px_M} {X : Option (Nat × (Nat → Int32))} {call : Nat → List Value → px_H → Option px_A}
variable {pc nc ns N0 : Nat} {lv : List (Nat × Value)} {st : List Value} {hp : px_H} {s' : px_S} {ls : Array Slot} {H0 : Heap}
set_option maxHeartbeats 8000000 in
set_option maxRecDepth 10000 in
/-- one step of the pure machine is a step of the machine -/
theorem px_sim (hx : p.tables.exec = Jvm.exec) (hb : c.code = px_by M) (hml : c.maxLocals = px_ml M) (hown : s.vm.findClass (px_nm M).cls = some m.cls) (hts : ∀ w ∈ Ts, w.before args s = true) (hK : va_K D cl (px_tys T dA) s) (hE : px_Ex EXT s) (hEx : ∀ w ∈ EXT, px_isX w = true) (hnm : meth.name = (px_nm M).name)
    (hok : px_okM cl T P CW CE mf o kM cM M = true) (hCW : ∀ q ∈ CW, px_w ow cl T P host q ∈ ALL) (hCE : ∀ q ∈ CE, px_w ow cl T P host q ∈ EXT) (ho : ow.getD o "" = (px_nm M).cls) (hmf : px_Mf cl P mf) (hkM : kM = 2 → (px_nm M).name = "<init>" ∧ ∀ (C : String) (F : u_T) (N9 : Nat), cl[cM]? = some (C, F, N9) → C = (px_nm M).cls) (hokK : px_okK cl T ALL) (hokL : ∀ ci : Nat, cl[ci]? = none → T.2[ci]? = none) (hall : ∀ w ∈ ALL, w ∈ Ts) (hgood : ∀ w ∈ ALL, (w.onTables && w.keeps) = true ∨ ∃ ty, w = .arrayClass ty) (hRM : R = px_rm M)
    (hcall : ∀ mi N av hp r hp', P[mi]? = some N → call mi av hp = some (r, hp') → px_Met l base b D cl T dA ALL EXT N av hp r hp')
    (hX : ∀ x, X = some x → va_X b x.1 x.2 s H0 ∧ b < H0.size ∧ b < base) (hbase : base ≤ H0.size) (hN0 : (px_rm M).cells ≠ 0 → s.heap.size = base + N0)
    (hs : px_step T X P call M N0 (pc, lv, st, hp, nc, ns) = some (.inl s')) (hR : px_Rel base b D cl dA hp H) (hS : va_S (fun q => base ≤ q) H0 H locs) (hl : lv_has ls (px_ml M) (px_trL base b lv))
    (kk : ∀ (H' : Heap) (locs' : List Loc) (ls' : Array Slot), px_Rel base b D cl dA s'.2.2.2.1 H' → va_S (fun q => base ≤ q) H0 H' locs' → lv_has ls' (px_ml M) (px_trL base b s'.2.1) →
      W p l e R s m args below meth c H' locs' s'.2.2.2.2.1 s'.2.2.2.2.2 Q (F0 m s'.1 ls' (s'.2.2.1.map (px_tr base b)))) :
    W p l e R s m args below meth c H locs nc ns Q (F0 m pc ls (st.map (px_tr base b))) := by
  have hokC : px_okC M = true := by
    have := hok
    simp only [px_okM, Bool.and_eq_true] at this
    exact this.1
  have hokP : ∀ q ∈ px_cp M, px_okR cl T P CW CE mf o kM cM M q = true := by
    have := hok
    simp only [px_okM, Bool.and_eq_true, List.all_eq_true] at this
    exact this.2
  have hal : ∀ q ∈ CW, px_w ow cl T P host q ∈ Ts := fun w h => hall _ (hCW w h)
  have hA : ∀ q, H0.size ≤ q → base ≤ q := fun q h => Nat.le_trans hbase h
  have hD := px_trH_D base b dA hp
  simp only [px_step] at hs
  split at hs
  · cases hs
  rename_i len i hf
  have hI := List.all_eq_true.mp hokC _ (px_find_mem hf)
  simp only [Bool.and_eq_true, decide_eq_true_eq] at hI
  obtain ⟨hd, hoi⟩ := hI
  split at hs
  · rename_i st' ha
    cases hs
    exact px_alu_sim hx hb hd (px_alu_len ha hoi) ha (kk H locs ls hR hS hl)
  rename_i ha
  cases i
  case iload j =>
    have hlen : len = 2 := of_decide_eq_true hoi
    subst hlen
    simp only at hs
    split at hs
    · rename_i x hj
      cases hs
      exact lv_iload hx hb hd (px_trL_find hl hj) (kk H locs ls hR hS hl)
    · cases hs
  case iload_n j =>
    have hlen : len = 1 := of_decide_eq_true hoi
    subst hlen
    simp only at hs
    split at hs
    · rename_i x hj
      cases hs
      exact lv_iload_n hx hb hd rfl (px_trL_find hl hj) (kk H locs ls hR hS hl)
    · cases hs
  case lload j =>
    have hlen : len = 2 := of_decide_eq_true hoi
    subst hlen
    simp only at hs
    split at hs
    · rename_i x hj
      cases hs
      exact lv_lload hx hb hd (px_trL_find hl hj) (kk H locs ls hR hS hl)
    · cases hs
  case lload_n j =>
    have hlen : len = 1 := of_decide_eq_true hoi
    subst hlen
    simp only at hs
    split at hs
    · rename_i x hj
      cases hs
      exact lv_lload_n hx hb hd rfl (px_trL_find hl hj) (kk H locs ls hR hS hl)
    · cases hs
  case aload j =>
    have hlen : len = 2 := of_decide_eq_true hoi
    subst hlen
    simp only at hs
    split at hs
    · rename_i x hj
      cases hs
      exact lv_aload hx hb hd (px_trL_find hl hj) (kk H locs ls hR hS hl)
    · rename_i x hj
      cases hs
      exact lv_aload hx hb hd (px_trL_find hl hj) (kk H locs ls hR hS hl)
    · cases hs
  case aload_n j =>
    have hlen : len = 1 := of_decide_eq_true hoi
    subst hlen
    simp only at hs
    split at hs
    · rename_i x hj
      cases hs
      exact lv_aload_n hx hb hd rfl (px_trL_find hl hj) (kk H locs ls hR hS hl)
    · rename_i x hj
      cases hs
      exact lv_aload_n hx hb hd rfl (px_trL_find hl hj) (kk H locs ls hR hS hl)
    · cases hs
  case istore j =>
    have hlen : len = 2 := of_decide_eq_true hoi
    subst hlen
    simp only at hs
    split at hs
    · rename_i x r
      split at hs
      · rename_i hj
        cases hs
        exact lv_istore hx hb hd hl (of_decide_eq_true hj) (px_trL_st1 base b lv j (.int x)) (fun ls' hl' => kk H locs ls' hR hS hl')
      · cases hs
    · cases hs
  case istore_n j =>
    have hlen : len = 1 := of_decide_eq_true hoi
    subst hlen
    simp only at hs
    split at hs
    · rename_i x r
      split at hs
      · rename_i hj
        cases hs
        exact lv_istore_n hx hb hd rfl hl (of_decide_eq_true hj) (px_trL_st1 base b lv j (.int x)) (fun ls' hl' => kk H locs ls' hR hS hl')
      · cases hs
    · cases hs
  case astore j =>
    have hlen : len = 2 := of_decide_eq_true hoi
    subst hlen
    simp only at hs
    split at hs
    · rename_i x r
      split at hs
      · rename_i hj
        cases hs
        exact lv_astore hx hb hd hl (of_decide_eq_true hj) (px_trL_st1 base b lv j (.ref x)) (fun ls' hl' => kk H locs ls' hR hS hl')
      · cases hs
    · cases hs
  case astore_n j =>
    have hlen : len = 1 := of_decide_eq_true hoi
    subst hlen
    simp only at hs
    split at hs
    · rename_i x r
      split at hs
      · rename_i hj
        cases hs
        exact lv_astore_n hx hb hd rfl hl (of_decide_eq_true hj) (px_trL_st1 base b lv j (.ref x)) (fun ls' hl' => kk H locs ls' hR hS hl')
      · cases hs
    · cases hs
  case lstore j =>
    have hlen : len = 2 := of_decide_eq_true hoi
    subst hlen
    simp only at hs
    split at hs
    · rename_i x r
      split at hs
      · rename_i hj
        cases hs
        exact lv_lstore hx hb hd hl (of_decide_eq_true hj) (px_trL_st2 base b lv j (.long x)) (fun ls' hl' => kk H locs ls' hR hS hl')
      · cases hs
    · cases hs
  case lstore_n j =>
    have hlen : len = 1 := of_decide_eq_true hoi
    subst hlen
    simp only at hs
    split at hs
    · rename_i x r
      split at hs
      · rename_i hj
        cases hs
        exact lv_lstore_n hx hb hd rfl hl (of_decide_eq_true hj) (px_trL_st2 base b lv j (.long x)) (fun ls' hl' => kk H locs ls' hR hS hl')
      · cases hs
    · cases hs
  case iinc j n =>
    have hlen : len = 3 := of_decide_eq_true hoi
    subst hlen
    simp only at hs
    split at hs
    · rename_i x hj1 hj
      cases hs
      obtain ⟨k, hk⟩ := px_trL_mem (base := base) (b := b) hj1
      exact lv_iinc hx hb hd hl hk rfl (of_decide_eq_true hj) (px_trL_st1 base b lv j (.int (x + Int32.ofInt n))) (fun ls' hl' => kk H locs ls' hR hS hl')
    · cases hs
  case ifCond cd off =>
    simp only [px_okI, Bool.and_eq_true, decide_eq_true_eq] at hoi
    obtain ⟨rfl, ho⟩ := hoi
    simp only at hs
    split at hs
    · rename_i x r
      cases cd
      · refine lv_if_eq hx hb hd (px_tgt_ok ho) (fun h => ?_) (fun h => ?_)
        · simp only [px_cmp, h, decide_true] at hs; cases hs; exact kk H locs ls hR hS hl
        · simp only [px_cmp, h, decide_false] at hs; cases hs; exact kk H locs ls hR hS hl
      · refine lv_if_ne hx hb hd (px_tgt_ok ho) (fun h => ?_) (fun h => ?_)
        · simp only [px_cmp, h, not_false_eq_true, decide_true] at hs; cases hs; exact kk H locs ls hR hS hl
        · simp only [px_cmp, h, decide_false] at hs; cases hs; exact kk H locs ls hR hS hl
      · refine lv_if_lt hx hb hd (px_tgt_ok ho) (fun h => ?_) (fun h => ?_)
        · simp only [px_cmp, h, decide_true] at hs; cases hs; exact kk H locs ls hR hS hl
        · simp only [px_cmp, h, decide_false] at hs; cases hs; exact kk H locs ls hR hS hl
      · refine lv_if_ge hx hb hd (px_tgt_ok ho) (fun h => ?_) (fun h => ?_)
        · simp only [px_cmp, h, decide_true] at hs; cases hs; exact kk H locs ls hR hS hl
        · simp only [px_cmp, h, decide_false] at hs; cases hs; exact kk H locs ls hR hS hl
      · refine lv_if_gt hx hb hd (px_tgt_ok ho) (fun h => ?_) (fun h => ?_)
        · simp only [px_cmp, h, decide_true] at hs; cases hs; exact kk H locs ls hR hS hl
        · simp only [px_cmp, h, decide_false] at hs; cases hs; exact kk H locs ls hR hS hl
      · refine lv_if_le hx hb hd (px_tgt_ok ho) (fun h => ?_) (fun h => ?_)
        · simp only [px_cmp, h, decide_true] at hs; cases hs; exact kk H locs ls hR hS hl
        · simp only [px_cmp, h, decide_false] at hs; cases hs; exact kk H locs ls hR hS hl
    · cases hs
  case if_icmp cd off =>
    simp only [px_okI, Bool.and_eq_true, decide_eq_true_eq] at hoi
    obtain ⟨rfl, ho⟩ := hoi
    simp only at hs
    split at hs
    · rename_i x r
      cases cd
      · refine lv_icmp_eq hx hb hd (px_tgt_ok ho) (fun h => ?_) (fun h => ?_)
        · simp only [px_cmp, h, decide_true] at hs; cases hs; exact kk H locs ls hR hS hl
        · simp only [px_cmp, h, decide_false] at hs; cases hs; exact kk H locs ls hR hS hl
      · refine lv_icmp_ne hx hb hd (px_tgt_ok ho) (fun h => ?_) (fun h => ?_)
        · simp only [px_cmp, h, not_false_eq_true, decide_true] at hs; cases hs; exact kk H locs ls hR hS hl
        · simp only [px_cmp, h, decide_false] at hs; cases hs; exact kk H locs ls hR hS hl
      · refine lv_icmp_lt hx hb hd (px_tgt_ok ho) (fun h => ?_) (fun h => ?_)
        · simp only [px_cmp, h, decide_true] at hs; cases hs; exact kk H locs ls hR hS hl
        · simp only [px_cmp, h, decide_false] at hs; cases hs; exact kk H locs ls hR hS hl
      · refine lv_icmp_ge hx hb hd (px_tgt_ok ho) (fun h => ?_) (fun h => ?_)
        · simp only [px_cmp, h, decide_true] at hs; cases hs; exact kk H locs ls hR hS hl
        · simp only [px_cmp, h, decide_false] at hs; cases hs; exact kk H locs ls hR hS hl
      · refine lv_icmp_gt hx hb hd (px_tgt_ok ho) (fun h => ?_) (fun h => ?_)
        · simp only [px_cmp, h, decide_true] at hs; cases hs; exact kk H locs ls hR hS hl
        · simp only [px_cmp, h, decide_false] at hs; cases hs; exact kk H locs ls hR hS hl
      · refine lv_icmp_le hx hb hd (px_tgt_ok ho) (fun h => ?_) (fun h => ?_)
        · simp only [px_cmp, h, decide_true] at hs; cases hs; exact kk H locs ls hR hS hl
        · simp only [px_cmp, h, decide_false] at hs; cases hs; exact kk H locs ls hR hS hl
    · cases hs
  case goto off =>
    simp only [px_okI, Bool.and_eq_true, decide_eq_true_eq] at hoi
    obtain ⟨rfl, ho⟩ := hoi
    cases hs
    exact lv_goto hx hb hd (px_tgt_ok ho) (kk H locs ls hR hS hl)
  case tableswitch dflt lo hi offs =>
    simp only [px_okI, Bool.and_eq_true, decide_eq_true_eq, List.all_eq_true] at hoi
    simp only at hs
    split at hs
    · rename_i x r
      split at hs
      · rename_i h
        cases hs
        exact lv_tableOut hx hb hd (by simpa using h) (px_tgt_ok hoi.1) (kk H locs ls hR hS hl)
      · rename_i h
        split at hs
        · rename_i off ho
          cases hs
          have h2 : ¬ x.toInt < lo ∧ ¬ hi < x.toInt := by simpa using h
          exact lv_tableIn hx hb hd h2.1 h2.2 ho (px_tgt_ok (hoi.2 off (Array.mem_toList_iff.mpr (Array.mem_of_getElem? ho)))) (kk H locs ls hR hS hl)
        · cases hs
    · cases hs
  case lookupswitch dflt ps =>
    simp only [px_okI, Bool.and_eq_true, decide_eq_true_eq] at hoi
    simp only at hs
    split at hs
    · rename_i x r
      split at hs
      · rename_i ho
        cases hs
        exact lv_lookup hx hb hd hoi.1.1 rfl (px_tgt_ok (of_decide_eq_true ho)) (kk H locs ls hR hS hl)
      · cases hs
    · cases hs
  case ldc idx =>
    have hlen : len = 2 := of_decide_eq_true hoi
    subst hlen
    simp only at hs
    split at hs
    · rename_i v hj
      cases hs
      have h9 := hokP _ (px_find_mem hj)
      simp only [px_okR, decide_eq_true_eq] at h9
      have h8 := hts _ (hal _ h9)
      simp only [px_w, ho] at h8
      exact lv_ldc hx hb hown h8 hd (kk H locs ls hR hS hl)
    · cases hs
  case ldc_w idx =>
    have hlen : len = 3 := of_decide_eq_true hoi
    subst hlen
    simp only at hs
    split at hs
    · rename_i v hj
      cases hs
      have h9 := hokP _ (px_find_mem hj)
      simp only [px_okR, decide_eq_true_eq] at h9
      have h8 := hts _ (hal _ h9)
      simp only [px_w, ho] at h8
      exact lv_ldcw hx hb hown h8 hd (kk H locs ls hR hS hl)
    · cases hs
  case ldc2_w idx =>
    have hlen : len = 3 := of_decide_eq_true hoi
    subst hlen
    simp only at hs
    split at hs
    · rename_i v hj
      cases hs
      have h9 := hokP _ (px_find_mem hj)
      simp only [px_okR, decide_eq_true_eq] at h9
      have h8 := hts _ (hal _ h9)
      simp only [px_w, ho] at h8
      exact lv_ldc2 hx hb hown h8 hd (kk H locs ls hR hS hl)
    · cases hs
  case getfield idx =>
    have hlen : len = 3 := of_decide_eq_true hoi
    subst hlen
    simp only at hs
    split at hs
    · rename_i ci k fl a r hj
      split at hs
      · rename_i c0 fs hq
        split at hs
        · rename_i v hc hv
          cases hs
          have hce := Nat.eq_of_beq_eq_true hc
          subst hce
          have h9 := hokP _ (px_find_mem hj)
          simp only [px_okR] at h9
          rcases hcl : cl[c0]? with _ | ⟨C, F, N⟩
          · rw [hcl] at h9; cases h9
          · rw [hcl] at h9
            simp only [Bool.and_eq_true, decide_eq_true_eq] at h9
            obtain ⟨⟨⟨hk, hlk⟩, -⟩, -⟩ := h9
            have h8 := hts _ (hal _ hlk)
            simp only [px_w, ho, hcl] at h8
            obtain ⟨tys, h1, h2, h3, h4, h5, h6⟩ := hokK _ _ _ _ hcl
            have hv' : (fs.map (px_tr base b))[k]? = some (px_tr base b v) := by rw [List.getElem?_map, hv]; rfl
            exact va_get hx hb hts (fun w hw => hall _ (h5 w hw)) hown hK hR a (px_trH_get hq) hcl k hk h8 (fun _ h => h) hv' hd (kk H locs ls hR hS hl)
        · cases hs
      · cases hs
    · cases hs
  case arraylength =>
    have hlen : len = 1 := of_decide_eq_true hoi
    subst hlen
    simp only at hs
    split at hs
    · split at hs
      · rename_i x
        cases hs
        obtain ⟨h1, h2, h3⟩ := hX x rfl
        exact va_slen hx hb h1 h2 (Nat.not_le.mpr h3) hS hd (kk H locs ls hR hS hl)
      · cases hs
    · rename_i a r
      split at hs
      · rename_i t n f hq
        split at hs
        · rename_i ty ht
          cases hs
          exact va_alen hx hb hK hR a t (px_trH_get hq) (px_tys_get ht) (by show Int32.ofNat (px_trA base (n, f)).1 = _; rw [px_trA_fst]) hd (kk H locs ls hR hS hl)
        · cases hs
      · cases hs
    · cases hs
  case putfield idx =>
    have hlen : len = 3 := of_decide_eq_true hoi
    subst hlen
    simp only at hs
    split at hs
    · rename_i ci k fl v a r hj
      split at hs
      · rename_i c0 fs n tys hq hT
        split at hs
        · rename_i ty hc hty hkl hfl
          split at hs
          · rename_i hft
            cases hs
            have hce := Nat.eq_of_beq_eq_true hc
            subst hce
            have h9 := hokP _ (px_find_mem hj)
            simp only [px_okR] at h9
            rcases hcl : cl[c0]? with _ | ⟨C, F, N⟩
            · rw [hcl] at h9; cases h9
            · rw [hcl] at h9
              simp only [Bool.and_eq_true, Bool.or_eq_true, decide_eq_true_eq] at h9
              obtain ⟨⟨⟨hk, hlk⟩, hfl2⟩, hfl3⟩ := h9
              have h8 := hts _ (hal _ hlk)
              simp only [px_w, ho, hcl] at h8
              obtain ⟨tys', h1, h2, h3, h4, h5, h6⟩ := hokK _ _ _ _ hcl
              rw [hT] at h1
              cases h1
              have hpd : parseFieldDescriptor (F k).2.2.1 = some ty := by rw [h3 k hk, px_getD hty]
              obtain ⟨hn, hfi⟩ := px_fits_ok base b hft
              have hk2 : k < (fs.map (px_tr base b)).length := by rw [List.length_map]; exact of_decide_eq_true hkl
              have hset : (px_trH base b dA hp).set a (base + a, .inr (c0, (fs.map (px_tr base b)).set k (px_tr base b v))) = px_trH base b dA (hp.set a (.inr (c0, fs.set k v))) := by
                rw [← px_trH_set]
                simp only [px_trE, List.map_set]
              by_cases hfin : (F k).2.2.2 = false
              · refine va_put hx hb hts (fun w hw => hall _ (h5 w hw)) (fun k => tys.getD k .int) h3 h4 hown hK hR hD hS a (px_trH_get hq) hcl k hk h8 (fun _ h => h) hfin hpd hn hfi hk2 hd (fun H1 locs1 hP1 hD1 hS1 => ?_)
                rw [hset] at hP1
                exact kk H1 locs1 ls hP1 hS1 hl
              · have hfin : (F k).2.2.2 = true := by simpa using hfin
                have hf2 : fl = 2 := by
                  have h2 := of_decide_eq_true hfl
                  rcases hfl2 with h | h
                  · omega
                  · rw [hfin] at h; cases h
                subst hf2
                have hf3 : kM = 2 ∧ cM = c0 := by
                  rcases hfl3 with h | h
                  · simp at h
                  · exact ⟨Nat.eq_of_beq_eq_true h.1, Nat.eq_of_beq_eq_true h.2⟩
                obtain ⟨e1, e2⟩ := hf3
                subst e2
                obtain ⟨e3, e4⟩ := hkM e1
                refine va_putF hx hb hts (fun w hw => hall _ (h5 w hw)) (fun k => tys.getD k .int) h3 h4 hown hK hR hD hS a (px_trH_get hq) hcl k hk h8 (fun _ h => h) hfin (by rw [hnm]; exact e3) ((h6 k hk).trans (e4 _ _ _ hcl)) hpd hn hfi hk2 hd (fun H1 locs1 hP1 hD1 hS1 => ?_)
                rw [hset] at hP1
                exact kk H1 locs1 ls hP1 hS1 hl
          · cases hs
        · cases hs
      · cases hs
    · cases hs
  case iaload =>
    have hlen : len = 1 := of_decide_eq_true hoi
    subst hlen
    simp only at hs
    split at hs
    · rename_i j a r
      simp only [Option.map_eq_some_iff] at hs
      obtain ⟨v, hv, hs⟩ := hs
      cases hs
      unfold px_ald at hv
      split at hv
      · split at hv
        · rename_i x
          split at hv
          · rename_i hin
            cases hv
            obtain ⟨h1, h2, h3⟩ := hX _ rfl
            exact va_sld hx hb h1 h2 (Nat.not_le.mpr h3) hS (px_inR_in hin) hd (kk H locs ls hR hS hl)
          · cases hv
        · cases hv
      · rename_i k
        split at hv
        · rename_i t n f hq
          split at hv
          · cases hv
          · rename_i hin
            split at hv
            · rename_i ht
              cases hv
              exact va_iald hx hb hK hR k t (px_trH_get hq) (px_tys_get ht) (px_inR_in hin) hd (kk H locs ls hR hS hl)
            · rename_i h _; cases h
            · rename_i h _; cases h
            · rename_i h _; cases h
            · cases hv
        · cases hv
      · cases hv
    · cases hs
  case baload =>
    have hlen : len = 1 := of_decide_eq_true hoi
    subst hlen
    simp only at hs
    split at hs
    · rename_i j a r
      simp only [Option.map_eq_some_iff] at hs
      obtain ⟨v, hv, hs⟩ := hs
      cases hs
      unfold px_ald at hv
      split at hv
      · split at hv
        · rename_i h; cases h
        · cases hv
      · rename_i k
        split at hv
        · rename_i t n f hq
          split at hv
          · cases hv
          · rename_i hin
            split at hv
            · rename_i h _; cases h
            · rename_i ht
              cases hv
              exact va_zald hx hb hK hR k t (px_trH_get hq) (px_tys_get ht) (px_inR_in hin) hd (kk H locs ls hR hS hl)
            · rename_i h _; cases h
            · rename_i h _; cases h
            · cases hv
        · cases hv
      · cases hv
    · cases hs
  case laload =>
    have hlen : len = 1 := of_decide_eq_true hoi
    subst hlen
    simp only at hs
    split at hs
    · rename_i j a r
      simp only [Option.map_eq_some_iff] at hs
      obtain ⟨v, hv, hs⟩ := hs
      cases hs
      unfold px_ald at hv
      split at hv
      · split at hv
        · rename_i h; cases h
        · cases hv
      · rename_i k
        split at hv
        · rename_i t n f hq
          split at hv
          · cases hv
          · rename_i hin
            split at hv
            · rename_i h _; cases h
            · rename_i h _; cases h
            · rename_i ht
              cases hv
              exact va_lald hx hb hK hR k t (px_trH_get hq) (px_tys_get ht) (px_inR_in hin) hd (kk H locs ls hR hS hl)
            · rename_i h _; cases h
            · cases hv
        · cases hv
      · cases hv
    · cases hs
  case aaload =>
    have hlen : len = 1 := of_decide_eq_true hoi
    subst hlen
    simp only at hs
    split at hs
    · rename_i j a r
      simp only [Option.map_eq_some_iff] at hs
      obtain ⟨v, hv, hs⟩ := hs
      cases hs
      unfold px_ald at hv
      split at hv
      · split at hv
        · rename_i h; cases h
        · cases hv
      · rename_i k
        split at hv
        · rename_i t n f hq
          split at hv
          · cases hv
          · rename_i hin
            split at hv
            · rename_i h _; cases h
            · rename_i h _; cases h
            · rename_i h _; cases h
            · rename_i C f ht
              split at hv
              · rename_i q hfq
                cases hv
                refine va_aldq hx hb hK hR k t (px_trH_get hq) (px_tys_get ht) (px_inR_in hin) hd ?_
                rw [hfq]
                exact kk H locs ls hR hS hl
              · cases hv
            · cases hv
        · cases hv
      · cases hv
    · cases hs
  case iastore =>
    have hlen : len = 1 := of_decide_eq_true hoi
    subst hlen
    simp only at hs
    split at hs
    · rename_i v j a r
      simp only [Option.map_eq_some_iff] at hs
      obtain ⟨hp', hv, hs⟩ := hs
      cases hs
      unfold px_ast at hv
      split at hv
      · rename_i t n f hq
        split at hv
        · cases hv
        · rename_i hin
          split at hv
          · rename_i f x _ ht
            cases hv
            refine va_iast hx hb hK hR hD hS a t (px_trH_get hq) (px_tys_get ht) (px_inR_in hin) hd (fun H1 locs1 hP1 hD1 hS1 => ?_)
            have hset := px_trH_set base b dA hp a (.inl (t, n, .inl (upd f j.toNatClampNeg x)))
            simp only [px_trE, px_trA] at hset
            rw [hset] at hP1
            exact kk H1 locs1 ls hP1 hS1 hl
          · rename_i h _; cases h
          · rename_i h _; cases h
          · cases hv
      · cases hv
    · cases hs
  case bastore =>
    have hlen : len = 1 := of_decide_eq_true hoi
    subst hlen
    simp only at hs
    split at hs
    · rename_i v j a r
      simp only [Option.map_eq_some_iff] at hs
      obtain ⟨hp', hv, hs⟩ := hs
      cases hs
      unfold px_ast at hv
      split at hv
      · rename_i t n f hq
        split at hv
        · cases hv
        · rename_i hin
          split at hv
          · rename_i h _; cases h
          · rename_i f x _ ht
            split at hv
            · rename_i hx01
              cases hv
              refine va_zast hx hb hK hR hD hS a t (px_trH_get hq) (px_tys_get ht) (px_inR_in hin) hd (fun H1 locs1 hP1 hD1 hS1 => ?_)
              have hnar : vp_nar .boolean x = x := by
                simp only [Bool.or_eq_true, decide_eq_true_eq] at hx01
                rcases hx01 with rfl | rfl <;> rfl
              rw [hnar] at hP1
              have hset := px_trH_set base b dA hp a (.inl (t, n, .inl (upd f j.toNatClampNeg x)))
              simp only [px_trE, px_trA] at hset
              rw [hset] at hP1
              exact kk H1 locs1 ls hP1 hS1 hl
            · cases hv
          · rename_i h _; cases h
          · cases hv
      · cases hv
    · cases hs
  case lastore =>
    have hlen : len = 1 := of_decide_eq_true hoi
    subst hlen
    simp only at hs
    split at hs
    · rename_i v j a r
      simp only [Option.map_eq_some_iff] at hs
      obtain ⟨hp', hv, hs⟩ := hs
      cases hs
      unfold px_ast at hv
      split at hv
      · rename_i t n f hq
        split at hv
        · cases hv
        · rename_i hin
          split at hv
          · rename_i h _; cases h
          · rename_i h _; cases h
          · rename_i f x _ ht
            cases hv
            refine va_last hx hb hK hR hD hS a t (px_trH_get hq) (px_tys_get ht) (px_inR_in hin) hd (fun H1 locs1 hP1 hD1 hS1 => ?_)
            have hset := px_trH_set base b dA hp a (.inl (t, n, .inr (.inl (vp_updL f j.toNatClampNeg x))))
            simp only [px_trE, px_trA] at hset
            rw [hset] at hP1
            exact kk H1 locs1 ls hP1 hS1 hl
          · cases hv
      · cases hv
    · cases hs
  case invokevirtual idx =>
    simp only at hs
    split at hs
    · rename_i mi n ci hj
      split at hs
      · rename_i a ha0
        split at hs
        · rename_i c0 fs hq
          split at hs
          · rename_i hc
            have hce := Nat.eq_of_beq_eq_true hc
            subst hce
            split at hs
            · cases hs
            · rename_i N hN
              split at hs
              · rename_i h1 h2 h3 h4 h5
                split at hs
                · cases hs
                · rename_i r hp' hcl
                  cases hs
                  have hlen : len = 3 := of_decide_eq_true hoi
                  subst hlen
                  have h9 := hokP _ (px_find_mem hj)
                  simp only [px_okR, hN, px_okN] at h9
                  rcases hm9 : mf[mi]? with _ | ⟨k', n', ci'⟩
                  · rw [hm9] at h9; cases h9
                  · rw [hm9] at h9
                    simp only [Bool.and_eq_true, Bool.or_eq_true, decide_eq_true_eq] at h9
                    obtain ⟨⟨⟨⟨⟨⟨⟨⟨j1, j2⟩, j3⟩, k1⟩, k2⟩, k4⟩, k6⟩, k7⟩, k8⟩ := h9
                    have j1 := Nat.eq_of_beq_eq_true j1
                    have j2 := Nat.eq_of_beq_eq_true j2
                    have j3 : ci.toNat = ci' := j3.elim (fun h => nomatch h) Nat.eq_of_beq_eq_true
                    subst j1 j2 j3
                    obtain ⟨k3, m1, -⟩ := hmf mi N _ _ _ hN hm9
                    rcases hcl2 : cl[ci.toNat]? with _ | ⟨C, F9, N9⟩
                    · obtain ⟨rr, hrr, -⟩ := hR _ _ (px_trH_get hq)
                      rw [hcl2] at hrr; cases hrr
                    have k5 := m1 rfl _ _ _ hcl2
                    subst k5
                    have k1 := hCW _ k1
                    have k2 := hts _ (hal _ k2)
                    have k6 := hts _ (hal _ k6)
                    have k7 := hts _ (hal _ k7)
                    have k8 := hts _ (hal _ k8)
                    simp only [px_w, ho, hN] at k1 k2 k6 k7 k8
                    have hM := hcall mi N _ hp r hp' hN hcl
                    have hst : st = st.take n ++ .ref a :: st.drop (n + 1) := px_split ha0
                    have hG : GoodIn Ts (px_ws ALL N) := px_goodIn hall hgood k1
                    have hsz := px_exact (base := base) (b := b) (D := D) (cl := cl) (dA := dA) (H := H) (N0 := N0) (nc := nc) (hp := hp) hR (Nat.le_trans hbase hS.1)
                    refine px_W_size (fun hle => ?_)
                    have hPre : ∀ U : State, U.heap = H → s.WarmedH U.vm → px_Pc EXT base b D cl T dA (px_rm N).cells (st.take (n + 1)).reverse hp ((st.take (n + 1)).reverse.map (px_tr base b)).toArray U := fun U hU hW =>
                      ⟨rfl, by rw [hU]; exact hR, va_K.moved hW.alike hK, px_Ex.moved hEx hW hE, by rw [hU]; exact Nat.le_trans hbase hS.1, fun hne => by
                        rw [hU]
                        rcases of_decide_eq_true h5 with h | h
                        · exact absurd h hne
                        · exact hsz h (by rw [← hN0 (by have := of_decide_eq_true h3; omega)]; exact hle)⟩
                    have hAs : (st.take (n + 1)).reverse.map (px_tr base b) = Value.ref (base + a) :: ((st.take n).reverse.map (px_tr base b)) := px_args ha0
                    rw [hAs] at hPre
                    refine W.eq (g2 := F0 m pc ls (((st.take n).reverse.map (px_tr base b)).reverse ++ Value.ref (base + a) :: ((st.drop (n + 1)).map (px_tr base b)))) (by rw [px_stack ha0]) ?_
                    have hcells := of_decide_eq_true h3
                    have hslots := of_decide_eq_true h4
                    refine px_W_call (va_runV (As := (st.take n).reverse.map (px_tr base b)) (rest := (st.drop (n + 1)).map (px_tr base b)) ⟨hx, hb, hml, hown, hts⟩ hM ⟨callB_of n hts hG rfl rfl rfl k2 k8 k3 (by rw [hRM]; exact k4), k6, k7⟩ ⟨px_blind hEx _ _ _ _ _ _ _ _ _, va_recv hK hR hcl2 (px_trH_get hq), hPre⟩ rfl (px_len_take ha0) (by rw [hl.1]) rfl (px_room (of_decide_eq_true h2)) hd (by rw [hRM]; exact ⟨hcells, hslots⟩)) hS (fun st o t _ h => h.2.2) (fun v st2 t locs1 e1 hQ hS1 => ?_)
                    obtain ⟨ev, hR1, -⟩ := hQ
                    cases ev
                    exact W.eq (by rw [px_ret]) (kk t.heap locs1 ls hR1 hS1 hl)
              · cases hs
          · cases hs
        · cases hs
      · cases hs
    · cases hs
  case invokestatic idx =>
    simp only at hs
    split at hs
    · rename_i mi n fl hj
      split at hs
      · cases hs
      · rename_i N hN
        split at hs
        · rename_i h1 h2 h3 h4 h5
          split at hs
          · cases hs
          · rename_i r hp' hcl
            cases hs
            have hlen : len = 3 := of_decide_eq_true hoi
            subst hlen
            have h9 := hokP _ (px_find_mem hj)
            simp only [px_okR, hN, px_okN] at h9
            rcases hm9 : mf[mi]? with _ | ⟨k', n', ci'⟩
            · rw [hm9] at h9; cases h9
            rw [hm9] at h9
            simp only [Bool.and_eq_true, Bool.or_eq_true, decide_eq_true_eq] at h9
            obtain ⟨⟨⟨⟨⟨⟨⟨j1, j2⟩, j3⟩, k1⟩, k2⟩, k4⟩, k5⟩, k6⟩ := h9
            have j2 := Nat.eq_of_beq_eq_true j2
            subst j2
            obtain ⟨k3, -, -⟩ := hmf mi N _ _ _ hN hm9
            have k1 := hCW _ k1
            have k2 := hts _ (hal _ k2)
            have k5 := hts _ (hal _ k5)
            have k6 := hts _ (hal _ k6)
            simp only [px_w, ho, hN] at k1 k2 k5 k6
            have hM := hcall mi N _ hp r hp' hN hcl
            have hG : GoodIn Ts (px_ws ALL N) := px_goodIn hall hgood k1
            have hsz := px_exact (base := base) (b := b) (D := D) (cl := cl) (dA := dA) (H := H) (N0 := N0) (nc := nc) (hp := hp) hR (Nat.le_trans hbase hS.1)
            refine px_W_size (fun hle => ?_)
            have hcells := of_decide_eq_true h3
            have hslots := of_decide_eq_true h4
            have hn := of_decide_eq_true h1
            have hPre : ∀ U : State, U.heap = H → s.WarmedH U.vm → px_Pc EXT base b D cl T dA (px_rm N).cells (st.take n).reverse hp ((st.take n).reverse.map (px_tr base b)).toArray U := fun U hU hW =>
              ⟨rfl, by rw [hU]; exact hR, va_K.moved hW.alike hK, px_Ex.moved hEx hW hE, by rw [hU]; exact Nat.le_trans hbase hS.1, fun hne => by
                rw [hU]
                rcases of_decide_eq_true h5 with h | h
                · exact absurd h hne
                · exact hsz h (by rw [← hN0 (by omega)]; exact hle)⟩
            have hla : ((st.take n).reverse.map (px_tr base b)).length = n := by simp; omega
            refine W.eq (g2 := F0 m pc ls (((st.take n).reverse.map (px_tr base b)).reverse ++ ((st.drop n).map (px_tr base b)))) (by rw [← px_stackS]) ?_
            refine px_W_call (va_runS (As := (st.take n).reverse.map (px_tr base b)) (rest := (st.drop n).map (px_tr base b)) ⟨hx, hb, hml, hown, hts⟩ hM ⟨callB_of n hts hG rfl rfl rfl k2 k6 k3 (by rw [hRM]; exact k4), k5⟩ ⟨px_blind hEx _ _ _ _ _ _ _ _ _, hPre⟩ rfl hla (by rw [hl.1]) rfl (px_room (of_decide_eq_true h2)) hd (by rw [hRM]; exact ⟨hcells, hslots⟩)) hS (fun st o t _ h => h.2.2) (fun v st2 t locs1 e1 hQ hS1 => ?_)
            obtain ⟨ev, hR1, -⟩ := hQ
            cases ev
            exact W.eq (by rw [px_ret]) (kk t.heap locs1 ls hR1 hS1 hl)
        · cases hs
    · cases hs
  case invokespecial idx =>
    have hlen : len = 3 := of_decide_eq_true hoi
    subst hlen
    simp only at hs
    split at hs
    · rename_i hj
      split at hs
      · rename_i a r
        split at hs
        · rename_i hcat
          cases hs
          have h9 := hokP _ (px_find_mem hj)
          simp only [px_okR, Bool.and_eq_true, decide_eq_true_eq] at h9
          obtain ⟨⟨⟨⟨k1, k2⟩, k3⟩, k4⟩, k5⟩ := h9
          have q1 := hts _ (hal _ k1)
          have q2 := hts _ (hal _ k2)
          have q3 := hts _ (hal _ k3)
          simp only [px_w, ho] at q1 q2 q3
          refine W.objInit hx hb hown q1 q2 q3 rfl (by rw [hml]; exact hl.1) rfl hd (by rw [hRM]; exact k4) ?_ (kk H locs ls hR hS hl)
          have := px_room (m := m) (pc := pc) (ls := ls) (st0 := List.map (px_tr base b) (Value.ref a :: r)) (base := base) (b := b) (of_decide_eq_true hcat)
          rw [hRM]
          omega
        · cases hs
      · cases hs
    · rename_i mi n fl hj
      split at hs
      · rename_i a ha0
        split at hs
        · cases hs
        · rename_i N hN
          split at hs
          · rename_i h1 h2 h3 h4 h5
            split at hs
            · cases hs
            · rename_i r hp' hcl
              cases hs
              have h9 := hokP _ (px_find_mem hj)
              simp only [px_okR, hN, px_okN] at h9
              rcases hm9 : mf[mi]? with _ | ⟨k', n', ci'⟩
              · rw [hm9] at h9; cases h9
              rw [hm9] at h9
              simp only [Bool.and_eq_true, Bool.or_eq_true, decide_eq_true_eq] at h9
              obtain ⟨⟨⟨⟨⟨⟨⟨j1, j2⟩, j3⟩, k1⟩, k2⟩, k4⟩, k7⟩, k8⟩ := h9
              have j1 := Nat.eq_of_beq_eq_true j1
              have j2 := Nat.eq_of_beq_eq_true j2
              subst j1 j2
              obtain ⟨k3, -, m2⟩ := hmf mi N _ _ _ hN hm9
              obtain ⟨k5, k6, -⟩ := m2 rfl
              have k1 := hCW _ k1
              have k2 := hts _ (hal _ k2)
              have k7 := hts _ (hal _ k7)
              simp only [px_w, ho, hN] at k1 k2 k7
              have hM := hcall mi N _ hp r hp' hN hcl
              have hG : GoodIn Ts (px_ws ALL N) := px_goodIn hall hgood k1
              have hsz := px_exact (base := base) (b := b) (D := D) (cl := cl) (dA := dA) (H := H) (N0 := N0) (nc := nc) (hp := hp) hR (Nat.le_trans hbase hS.1)
              refine px_W_size (fun hle => ?_)
              have hcells := of_decide_eq_true h3
              have hslots := of_decide_eq_true h4
              have hPre : ∀ U : State, U.heap = H → s.WarmedH U.vm → px_Pc EXT base b D cl T dA (px_rm N).cells (st.take (n + 1)).reverse hp ((st.take (n + 1)).reverse.map (px_tr base b)).toArray U := fun U hU hW =>
                ⟨rfl, by rw [hU]; exact hR, va_K.moved hW.alike hK, px_Ex.moved hEx hW hE, by rw [hU]; exact Nat.le_trans hbase hS.1, fun hne => by
                  rw [hU]
                  rcases of_decide_eq_true h5 with h | h
                  · exact absurd h hne
                  · exact hsz h (by rw [← hN0 (by omega)]; exact hle)⟩
              have hAs : (st.take (n + 1)).reverse.map (px_tr base b) = Value.ref (base + a) :: ((st.take n).reverse.map (px_tr base b)) := px_args ha0
              rw [hAs] at hPre
              refine W.eq (g2 := F0 m pc ls (((st.take n).reverse.map (px_tr base b)).reverse ++ Value.ref (base + a) :: ((st.drop (n + 1)).map (px_tr base b)))) (by rw [px_stack ha0]) ?_
              rcases k8 with k8 | k8
              · have k8 := hts _ (hal _ k8)
                simp only [px_w, ho, hN] at k8
                refine px_W_call (va_runI (As := (st.take n).reverse.map (px_tr base b)) (rest := (st.drop (n + 1)).map (px_tr base b)) ⟨hx, hb, hml, hown, hts⟩ hM ⟨px_eqr k6 (callB_of n hts hG rfl rfl rfl k2 k8 k3 (by rw [hRM]; exact k4)), k5, k7⟩ ⟨px_blind hEx _ _ _ _ _ _ _ _ _, hPre⟩ rfl (px_len_take ha0) (by rw [hl.1]) rfl (px_room (of_decide_eq_true h2)) hd (by rw [hRM]; exact ⟨hcells, hslots⟩)) hS (fun st o t _ h => h.2.2) (fun v st2 t locs1 e1 hQ hS1 => ?_)
                obtain ⟨ev, hR1, -⟩ := hQ
                cases ev
                exact W.eq (by rw [px_ret]) (kk t.heap locs1 ls hR1 hS1 hl)
              · have k8 := hCE _ k8
                simp only [px_w, ho, hN] at k8
                refine px_W_call (va_runIN (As := (st.take n).reverse.map (px_tr base b)) (rest := (st.drop (n + 1)).map (px_tr base b)) ⟨hx, hb, hml, hown, hts⟩ hM ⟨px_eqn k6 (va_cnB n hts hG rfl rfl rfl (hE _ k8) k2 k3 (by rw [hRM]; exact k4)), k5, k7⟩ ⟨px_blind hEx _ _ _ _ _ _ _ _ _, hPre⟩ rfl (px_len_take ha0) (by rw [hl.1]) rfl (px_room (of_decide_eq_true h2)) hd (by rw [hRM]; exact ⟨hcells, hslots⟩)) hS (fun st o t _ h => h.2.2) (fun v st2 t locs1 e1 hQ hS1 => ?_)
                obtain ⟨ev, hR1, -⟩ := hQ
                cases ev
                exact W.eq (by rw [px_ret]) (kk t.heap locs1 ls hR1 hS1 hl)
          · cases hs
      · cases hs
    · cases hs
  case new idx =>
    have hlen : len = 3 := of_decide_eq_true hoi
    subst hlen
    simp only at hs
    split at hs
    · rename_i ci z1 z2 hj
      split at hs
      · rename_i n tys hT
        split at hs
        · rename_i h1 h2 h3
          cases hs
          have h9 := hokP _ (px_find_mem hj)
          simp only [px_okR, Bool.and_eq_true, decide_eq_true_eq] at h9
          obtain ⟨⟨k2, k3⟩, k4⟩ := h9
          have k2 := hts _ (hal _ k2)
          have k3 := hts _ (hal _ k3)
          have k4 := hts _ (hal _ k4)
          rcases hcl2 : cl[ci]? with _ | ⟨C, F9, N9⟩
          · exact absurd (hokL ci hcl2) (by rw [hT]; simp)
          · simp only [px_w, ho, hcl2] at k2 k3 k4
            obtain ⟨tys', e1, e2, e3, e4, e5, e6⟩ := hokK _ _ _ _ hcl2
            rw [hT] at e1
            cases e1
            have hKn := hK.1 ci _ hcl2
            have hsz := px_exact (base := base) (b := b) (D := D) (cl := cl) (dA := dA) (H := H) (N0 := N0) (nc := nc) (hp := hp) hR (Nat.le_trans hbase hS.1)
            refine px_W_size (fun hle => ?_)
            have hc1 := of_decide_eq_true h1
            have hHs : H.size = base + hp.length := hsz (of_decide_eq_true h3) (by rw [← hN0 (by omega)]; exact hle)
            refine W.newcK hx hb hown k2 k3 k4 rfl hd (by rw [hRM]; exact hc1) (by rw [hRM]; exact of_decide_eq_true h2) hKn.2.1 hHs (fun H1 kC hkC g1 g2 g3 => ?_)
            refine kk H1 locs ls ?_ ⟨Nat.le_trans hS.1 (by omega), fun x q1 q2 => (g3 x (by have := hS.1; omega)).trans (hS.2.1 x q1 q2), hS.2.2⟩ hl
            show va_P D cl (px_trH base b dA (hp ++ [.inr (ci, tys.map defaultValue)])) H1
            rw [px_trH_push]
            refine va_P.app (va_P.kept hR (fun k x hx9 => g3 x.1 (by rw [← hHs]; exact (hR k x hx9).lt))) (fun k x hx9 => ?_)
            have hz : k < 1 := (List.getElem?_eq_some_iff.mp hx9).1
            rw [show k = 0 by omega] at hx9
            cases hx9
            refine ⟨_, hcl2, (u_born (fun k => tys.getD k .int) hts (fun w hw => hall _ (e5 w hw)) hKn hkC g1 e3).to (fun j hj9 => ?_)⟩
            exact px_dv base b tys j (by rw [e2]; exact hj9)
        · cases hs
      · cases hs
    · cases hs
  case newarray aty =>
    have hlen : len = 2 := of_decide_eq_true hoi
    subst hlen
    simp only at hs
    split at hs
    · rename_i t z1 z2 n r hj
      split at hs
      · rename_i ty ht h0 h1 h2 h3 h4
        split at hs
        · rename_i a0 h5 h6
          cases hs
          have hty := of_decide_eq_true h5
          have h9 := hokP _ (px_find_mem hj)
          have hsz := px_exact (base := base) (b := b) (D := D) (cl := cl) (dA := dA) (H := H) (N0 := N0) (nc := nc) (hp := hp) hR (Nat.le_trans hbase hS.1)
          refine px_W_size (fun hle => ?_)
          have hc1 := of_decide_eq_true h2
          have hHs : H.size = base + hp.length := hsz (of_decide_eq_true h4) (by rw [← hN0 (by omega)]; exact hle)
          obtain ⟨q1, q2, q3⟩ := px_dflt_ok (base := base) h6
          have hac : (Cond.arrayClass ty).before args s = true := by
            simp only [px_okR, ht] at h9
            cases ty <;> first | (have h8 := hts _ (hal _ (of_decide_eq_true h9)); simp only [px_w, ht] at h8; exact h8) | (exfalso; cases aty <;> simp [newarray.typeOf] at hty) | (simp [px_dflt] at h6; done)
          have hn0 : ¬ n < 0 := by
            rw [Int32.lt_iff_toInt_lt]
            have := of_decide_eq_true h0
            simp only [Int32.toInt_zero]
            omega
          have hK2 := hK.2 t _ (px_tys_get ht)
          refine va_newaK hx hb (by rw [hty]; exact hac) rfl hd rfl hn0 rfl ?_ (by rw [hRM]; exact hc1) (by rw [hRM]; exact of_decide_eq_true h3) hHs (fun H1 cA g1 g2 g3 g4 g5 => ?_)
          · rw [hty]
            have := of_decide_eq_true h1
            have := px_clamp (of_decide_eq_true h0) (of_decide_eq_true h1)
            have := px_cb ty
            exact Nat.le_trans (Nat.mul_le_mul ‹_› this) (by decide)
          · have hcA : cA = dA t := by
              rw [hty] at g5
              have h8 := px_RA (by rw [← hty]; cases aty <;> rfl) hK2.2
              rw [g5] at h8
              exact Option.some.inj h8
            subst hcA
            refine kk H1 locs ls ?_ ⟨Nat.le_trans hS.1 (by omega), fun x y1 y2 => (g3 x (by have := hS.1; omega)).trans (hS.2.1 x y1 y2), hS.2.2⟩ hl
            show va_P D cl (px_trH base b dA (hp ++ [.inl (t, a0)])) H1
            rw [px_trH_push]
            refine va_P.app (va_P.kept hR (fun k x hx9 => g3 x.1 (by rw [← hHs]; exact (hR k x hx9).lt))) (fun k x hx9 => ?_)
            have hz : k < 1 := (List.getElem?_eq_some_iff.mp hx9).1
            rw [show k = 0 by omega] at hx9
            cases hx9
            show H1[base + hp.length]? = some (vp_cell (dA t) (px_trA base a0))
            rw [g1, q1 (dA t), hty]
        · cases hs
      · cases hs
    · cases hs
  case anewarray idx =>
    have hlen : len = 3 := of_decide_eq_true hoi
    subst hlen
    simp only at hs
    split at hs
    · rename_i t z1 z2 t' z3 z4 n r hj hj2
      split at hs
      · rename_i C ht h00 h0 h1 h2 h3 h4
        cases hs
        have e00 := Nat.eq_of_beq_eq_true h00
        subst e00
        have h9 := hokP _ (px_find_mem hj2)
        simp only [px_okR, ht, Bool.and_eq_true, decide_eq_true_eq] at h9
        have q1 := hts _ (hal _ h9.1)
        have q2 := hCE _ h9.2
        simp only [px_w, ho, ht] at q1 q2
        have hsz := px_exact (base := base) (b := b) (D := D) (cl := cl) (dA := dA) (H := H) (N0 := N0) (nc := nc) (hp := hp) hR (Nat.le_trans hbase hS.1)
        refine px_W_size (fun hle => ?_)
        have hc1 := of_decide_eq_true h2
        have hHs : H.size = base + hp.length := hsz (of_decide_eq_true h4) (by rw [← hN0 (by omega)]; exact hle)
        have hn0 : ¬ n < 0 := by
          rw [Int32.lt_iff_toInt_lt]
          have := of_decide_eq_true h0
          simp only [Int32.toInt_zero]
          omega
        obtain ⟨-, kA0, comp0, p1, p2, p3, p4⟩ := hK.2 t _ (px_tys_get ht)
        have hcb := px_clamp (of_decide_eq_true h0) (of_decide_eq_true h1)
        refine W.anew hx hb hown q1 (va_AO.use (hE _ q2)) rfl hd rfl hn0 (by omega) (by rw [hRM]; exact hc1) (by rw [hRM]; exact of_decide_eq_true h3) (fun cA kA comp g1 g2 g3 g4 => ?_)
        have hcA : cA = dA t := by
          rw [g1] at p4
          exact Option.some.inj p4
        subst hcA
        rw [hHs]
        have hpush : ∀ q : Nat, q < H.size → (H.push { cls := dA t, slots := Array.replicate n.toNatClampNeg Value.null, vm := .none })[q]? = H[q]? := fun q hq => by
          rw [Array.getElem?_push_lt hq, Array.getElem?_eq_getElem hq]
        refine kk _ locs ls ?_ ⟨Nat.le_trans hS.1 (by rw [Array.size_push]; omega), fun x y1 y2 => (hpush x (Nat.lt_of_lt_of_le y1 hS.1)).trans (hS.2.1 x y1 y2), hS.2.2⟩ hl
        show va_P D cl (px_trH base b dA (hp ++ [.inl (t, n.toNatClampNeg, .inr (.inr (.inr (.inr (fun _ => none)))))])) _
        rw [px_trH_push]
        refine va_P.app (va_P.kept hR (fun k x hx9 => hpush x.1 (hR k x hx9).lt)) (fun k x hx9 => ?_)
        have hz : k < 1 := (List.getElem?_eq_some_iff.mp hx9).1
        rw [show k = 0 by omega] at hx9
        cases hx9
        show (H.push _)[base + hp.length]? = some (vp_cell (dA t) (n.toNatClampNeg, .inr (.inr (.inr (.inr (fun _ => none))))))
        rw [← hHs, Array.getElem?_push_size]
        congr 1
        rw [vp_cell_q]
        simp only [arrV, va_rf]
        congr 1
        apply Array.ext
        · simp
        · intro i q1 q2
          simp
      · cases hs
    · cases hs
  case aastore =>
    have hlen : len = 1 := of_decide_eq_true hoi
    subst hlen
    simp only at hs
    split at hs
    · rename_i v j a r
      split at hs
      · rename_i t n f ci vs hq hv
        split at hs
        · rename_i C w9 hin ht hT
          split at hs
          · rename_i ci' t' z2 hj
            split at hs
            · rename_i hcc
              cases hs
              simp only [Bool.and_eq_true] at hcc
              have e00 := Nat.eq_of_beq_eq_true hcc.1
              have e01 := Nat.eq_of_beq_eq_true hcc.2
              subst e00 e01
              have h9 := hokP _ (px_find_mem hj)
              simp only [px_okR, ht] at h9
              rcases hcl2 : cl[ci]? with _ | ⟨C2, F9, N9⟩
              · rw [hcl2] at h9; cases h9
              · rw [hcl2] at h9
                have h10 := of_decide_eq_true h9
                have h11 : T.1[t]? = some (.object C2) := by rw [ht, h10]
                refine va_astq hx hb hK hR hD hS a t v ci (px_trH_get hq) (px_tys_get h11) (px_trH_get hv) hcl2 (px_inR_in hin) hd (fun H1 locs1 hP1 hD1 hS1 => ?_)
                have hset := px_trH_set base b dA hp a (.inl (t, n, .inr (.inr (.inr (.inr (va_up f j.toNatClampNeg (some v)))))))
                simp only [px_trE, px_trA] at hset
                rw [px_upq] at hset
                rw [hset] at hP1
                exact kk H1 locs1 ls hP1 hS1 hl
            · cases hs
          · cases hs
        · cases hs
      · cases hs
    · cases hs
  case ireturn =>
    simp only at hs
    split at hs
    · split at hs <;> cases hs
    · cases hs
  case lreturn =>
    simp only at hs
    split at hs <;> cases hs
  case return_ =>
    simp only at hs
    split at hs <;> cases hs
  all_goals cases hs
end px_s3
end
section
section px_s4
variable {l : Launch} {base b : Nat} {D : va_G} {cl : List vw_C} {T : px_T} {dA : Nat → ClassId} {P : List px_M} {ALL EXT : List Cond} {host : String} {ow : List String} {mf : List (Nat × Nat × Nat)}
/-- the method's end -/
theorem px_sim_ret {p : Program} {e : Env} {s : State} {m : MethodId} {args : Array Value} {below : List Frame} {meth : Method} {c : Code} {H : Heap} {locs : List Loc} {M : px_M} {X : Option (Nat × (Nat → Int32))} {call : Nat → List Value → px_H → Option px_A} {pc nc ns N0 : Nat} {lv : List (Nat × Value)} {st : List Value} {hp hp' : px_H} {r : Option Value} {ls : Array Slot} {mc ms : Nat}
    (hx : p.tables.exec = Jvm.exec) (hb : c.code = px_by M) (hr : meth.sig.returnType = px_rt M) (hlocks : meth.locks = false)
    (hok : px_okC M = true) (hmc : (px_rm M).cells = mc) (hms : (px_rm M).slots = ms)
    (hs : px_step T X P call M N0 (pc, lv, st, hp, nc, ns) = some (.inr (r, hp'))) (hR : px_Rel base b D cl dA hp H) (hS : va_S (fun q => base ≤ q) s.heap H locs) :
    W p l e (px_rm M) s m args below meth c H locs nc ns (MQ below (px_Qc base b D cl dA r hp') args s mc ms (fun q => base ≤ q)) (F0 m pc ls (st.map (px_tr base b))) := by
  subst hmc
  subst hms
  simp only [px_step] at hs
  split at hs
  · cases hs
  rename_i len i hf
  have hI := List.all_eq_true.mp hok _ (px_find_mem hf)
  simp only [Bool.and_eq_true, decide_eq_true_eq] at hI
  obtain ⟨hd, hoi⟩ := hI
  split at hs
  · cases hs
  rename_i ha
  cases i
  case ireturn =>
    have hlen : len = 1 := of_decide_eq_true hoi
    subst hlen
    simp only at hs
    split at hs
    · rename_i v ty h1 h2 h3
      split at hs
      · rename_i hz
        cases hs
        refine W.widen (of_decide_eq_true h2) (of_decide_eq_true h3) ?_
        refine W.zret (ty := ty) hx hb (by rw [hr, h1]) ?_ (fun t ht hW => ⟨rfl, by rw [ht]; exact hR, by rw [ht]; exact hS.1, fun q q1 q2 => by rw [ht]; exact hS.2.1 q q1 q2⟩) hS.2.2 hd
        unfold px_zr at hz
        split at hz
        · rfl
        · simp only [Bool.or_eq_true, decide_eq_true_eq] at hz
          rcases hz with rfl | rfl <;> rfl
        · cases hz
      · cases hs
    · cases hs
  case lreturn =>
    have hlen : len = 1 := of_decide_eq_true hoi
    subst hlen
    simp only at hs
    split at hs
    · rename_i v h1 h2 h3
      cases hs
      refine W.widen (of_decide_eq_true h2) (of_decide_eq_true h3) ?_
      exact W.lret hx hb (by rw [hr, h1]) (fun t ht hW => ⟨rfl, by rw [ht]; exact hR, by rw [ht]; exact hS.1, fun q q1 q2 => by rw [ht]; exact hS.2.1 q q1 q2⟩) hS.2.2 hd
    · cases hs
  case return_ =>
    have hlen : len = 1 := of_decide_eq_true hoi
    subst hlen
    simp only at hs
    split at hs
    · rename_i h1 h2 h3
      cases hs
      refine W.widen (of_decide_eq_true h2) (of_decide_eq_true h3) ?_
      exact W.vret hx hb (by rw [hr, h1]) (fun t ht hW => ⟨rfl, by rw [ht]; exact hR, by rw [ht]; exact hS.1, fun q q1 q2 => by rw [ht]; exact hS.2.1 q q1 q2⟩) hS.2.2 hd
    · cases hs
  all_goals
    exfalso
    revert hs
    try simp only []
    repeat' split
    all_goals first | (intro h; cases h; done) | (simp; done) | (intro h; simp only [Option.map_eq_some_iff] at h; obtain ⟨_, _, h⟩ := h; cases h; done)
/-- what stands fast of the program -/
def px_Wd (ow : List String) (cl : List vw_C) (T : px_T) (P : List px_M) (ALL EXT : List Cond) (host : String) (mf : List (Nat × Nat × Nat)) (M : px_M) : Prop :=
  ∃ (CW CE : List px_Cw) (o kM cM : Nat), px_okM cl T P CW CE mf o kM cM M = true ∧ (∀ q ∈ CW, px_w ow cl T P host q ∈ ALL) ∧ (∀ q ∈ CE, px_w ow cl T P host q ∈ EXT) ∧ ow.getD o "" = (px_nm M).cls ∧ (kM = 2 → (px_nm M).name = "<init>" ∧ ∀ (C : String) (F : u_T) (N9 : Nat), cl[cM]? = some (C, F, N9) → C = (px_nm M).cls)
def px_Ok (ow : List String) (cl : List vw_C) (T : px_T) (P : List px_M) (ALL EXT : List Cond) (host : String) (mf : List (Nat × Nat × Nat)) : Prop :=
  (∀ M ∈ P, px_Wd ow cl T P ALL EXT host mf M ∧ plainName (px_nm M).cls = true) ∧ (px_okK cl T ALL ∧ (∀ ci : Nat, cl[ci]? = none → T.2[ci]? = none) ∧ px_Mf cl P mf) ∧ (∀ w ∈ ALL, (w.onTables && w.keeps) = true ∨ ∃ ty, w = .arrayClass ty) ∧ ∀ w ∈ EXT, px_isX w = true
theorem px_run_sim {p : Program} {e : Env} {s : State} {m : MethodId} {args : Array Value} {below : List Frame} {meth : Method} {c : Code} {M : px_M} {Ts : List Cond} {call : Nat → List Value → px_H → Option px_A} {N0 : Nat} {r : Option Value} {hp' : px_H}
    (hx : p.tables.exec = Jvm.exec) (hb : c.code = px_by M) (hml : c.maxLocals = px_ml M) (hown : s.vm.findClass (px_nm M).cls = some m.cls) (hts : ∀ w ∈ Ts, w.before args s = true) (hK : va_K D cl (px_tys T dA) s) (hE : px_Ex EXT s) (hnm : meth.name = (px_nm M).name)
    (hr : meth.sig.returnType = px_rt M) (hlocks : meth.locks = false)
    (hok : px_Wd ow cl T P ALL EXT host mf M) (hOk : px_Ok ow cl T P ALL EXT host mf) (hall : ∀ w ∈ ALL, w ∈ Ts)
    (hcall : ∀ mi N av hp r hp', P[mi]? = some N → call mi av hp = some (r, hp') → px_Met l base b D cl T dA ALL EXT N av hp r hp')
    (hbase : base ≤ s.heap.size) (hN0 : (px_rm M).cells ≠ 0 → s.heap.size = base + N0) :
    ∀ (n : Nat) (S : px_S), px_run T none P call M N0 n S = some (r, hp') → ∀ (H : Heap) (locs : List Loc) (ls : Array Slot), px_Rel base b D cl dA S.2.2.2.1 H → va_S (fun q => base ≤ q) s.heap H locs → lv_has ls (px_ml M) (px_trL base b S.2.1) →
      W p l e (px_rm M) s m args below meth c H locs S.2.2.2.2.1 S.2.2.2.2.2 (MQ below (px_Qc base b D cl dA r hp') args s (px_rm M).cells (px_rm M).slots (fun q => base ≤ q)) (F0 m S.1 ls (S.2.2.1.map (px_tr base b))) := by
  obtain ⟨CW, CE, o, kM, cM, hokM, hCW, hCE, ho, hkM⟩ := hok
  intro n
  induction n with
  | zero => intro S h; cases h
  | succ n ih =>
    intro S h H locs ls hR hS hl
    obtain ⟨pc, lv, st, hp, nc, ns⟩ := S
    unfold px_run at h
    split at h
    · cases h
    · rename_i s' hs
      exact px_sim hx hb hml hown hts hK hE hOk.2.2.2 hnm hokM hCW hCE ho hOk.2.1.2.2 hkM hOk.2.1.1 hOk.2.1.2.1 hall hOk.2.2.1 rfl hcall (fun x hx => by cases hx) hbase hN0 hs hR hS hl (fun H' locs' ls' hR' hS' hl' => ih s' h H' locs' ls' hR' hS' hl')
    · rename_i r9 hs
      cases h
      have hokC : px_okC M = true := by
        have := hokM
        simp only [px_okM, Bool.and_eq_true] at this
        exact this.1
      exact px_sim_ret hx hb hr hlocks hokC rfl rfl hs hR hS
/-- a pure call is a contract of the machine -/
theorem px_call_sim {Spc : Nat → List Value → px_H → Option px_A} (hOk : px_Ok ow cl T P ALL EXT host mf) (hSpc : ∀ mi N av hp r hp', P[mi]? = some N → Spc mi av hp = some (r, hp') → px_Met l base b D cl T dA ALL EXT N av hp r hp') :
    ∀ (n mi : Nat) (N : px_M) (av : List Value) (hp : px_H) (r : Option Value) (hp' : px_H), P[mi]? = some N → px_call T P Spc n mi av hp = some (r, hp') → px_Met l base b D cl T dA ALL EXT N av hp r hp' := by
  intro n
  induction n with
  | zero => intro mi N av hp r hp' _ h; cases h
  | succ n ih =>
    intro mi N av hp r hp' hN h
    unfold px_call at h
    split at h
    · rename_i r9 hs
      cases h
      exact hSpc mi N av hp _ _ hN hs
    rw [hN] at h
    simp only at h
    split at h
    · cases h
    · rename_i hlen
      obtain ⟨hok, hpl⟩ := hOk.1 N (List.mem_of_getElem? hN)
      refine Met.ofW (cc := px_by N) (maxL := px_ml N) (ret := px_rt N) hpl rfl ?_
      intro p e s m args below meth c s₁ B hml hv
      obtain ⟨rfl, hR, hK, hE, hbase, hN0⟩ := hv
      have hts := atoms_spec (ws := px_ws ALL N) B.pre
      have hl := lv_entry (av.map (px_tr base b)) (n := px_ml N) (by rw [px_lg_sl]; exact of_decide_eq_true hlen)
      rw [lg_entry_eq]
      generalize (lg_sl (av.map (px_tr base b)) ++ List.replicate (px_ml N - (lg_sl (av.map (px_tr base b))).length) Slot.unset).toArray = ls at hl ⊢
      rw [px_lv_args] at hl
      exact px_run_sim (Ts := px_ws ALL N) B.exec B.bytes hml (findClass_of_methodNamed B.named) hts hK hE (name_of_methodNamed B.named B.method).1 B.returns B.notSynchronized hok hOk (fun w hw => List.mem_cons_of_mem _ hw) (fun mi N av hp r hp' h1 h2 => ih mi N av hp r hp' h1 h2) hbase hN0 n _ h s.heap [] ls hR va_S.rf hl
end px_s4
end
