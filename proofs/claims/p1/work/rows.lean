section
/-- (names a row of the whole library, so that the rounds are read over it from the first part on) -/
theorem vx_wide : True := by
  have _h := @Jvm.Stand.thenCaughtThrough
  trivial
end
section
-- ===== PART A: goes FIRST, ahead of the names: the tables' words, and 'selects' of the private methods out of them =====
/-- a private method of a class that the tables say can be made, by its rows of tables_1 -/
def lw_okq (q : MethodName × Nat) : Prop := (q.1.cls ≠ "java/lang/invoke/MethodHandle" ∧ q.1.cls ≠ "java/lang/invoke/VarHandle") ∧ Cond.instantiable q.1.cls q.2 ∈ tables_1 ∧ Cond.privateMethod q.1 ∈ tables_1 ∧ Cond.instanceMethod q.1 ∈ tables_1
theorem lw_p0 : lw_okq (⟨"NamesInBags", "readInto", "(LNamesInBags$Rule;)I"⟩, 17) := ⟨⟨by decide +kernel, by decide +kernel⟩, List.mem_of_getElem? (i := 18) (by decide +kernel), List.mem_of_getElem? (i := 435) (by decide +kernel), List.mem_of_getElem? (i := 436) (by decide +kernel)⟩
theorem lw_p1 : lw_okq (⟨"NamesInBags", "isDrawingLeft", "()Z"⟩, 17) := ⟨⟨by decide +kernel, by decide +kernel⟩, List.mem_of_getElem? (i := 18) (by decide +kernel), List.mem_of_getElem? (i := 458) (by decide +kernel), List.mem_of_getElem? (i := 459) (by decide +kernel)⟩
theorem lw_p2 : lw_okq (⟨"NamesInBags", "readyNow", "()V"⟩, 17) := ⟨⟨by decide +kernel, by decide +kernel⟩, List.mem_of_getElem? (i := 18) (by decide +kernel), List.mem_of_getElem? (i := 462) (by decide +kernel), List.mem_of_getElem? (i := 463) (by decide +kernel)⟩
theorem lw_p3 : lw_okq (⟨"NamesInBags$Course", "barredBy", "(III)I"⟩, 14) := ⟨⟨by decide +kernel, by decide +kernel⟩, List.mem_of_getElem? (i := 147) (by decide +kernel), List.mem_of_getElem? (i := 498) (by decide +kernel), List.mem_of_getElem? (i := 499) (by decide +kernel)⟩
theorem lw_p4 : lw_okq (⟨"NamesInBags$Course", "kinOf", "(I)I"⟩, 14) := ⟨⟨by decide +kernel, by decide +kernel⟩, List.mem_of_getElem? (i := 147) (by decide +kernel), List.mem_of_getElem? (i := 502) (by decide +kernel), List.mem_of_getElem? (i := 503) (by decide +kernel)⟩
theorem lw_p5 : lw_okq (⟨"NamesInBags$Course", "satSince", "(II)I"⟩, 14) := ⟨⟨by decide +kernel, by decide +kernel⟩, List.mem_of_getElem? (i := 147) (by decide +kernel), List.mem_of_getElem? (i := 506) (by decide +kernel), List.mem_of_getElem? (i := 507) (by decide +kernel)⟩
theorem lw_p6 : lw_okq (⟨"NamesInBags", "drawSlip", "(I)I"⟩, 17) := ⟨⟨by decide +kernel, by decide +kernel⟩, List.mem_of_getElem? (i := 18) (by decide +kernel), List.mem_of_getElem? (i := 542) (by decide +kernel), List.mem_of_getElem? (i := 543) (by decide +kernel)⟩
theorem lw_p7 : lw_okq (⟨"NamesInBags", "follow", "(JI)I"⟩, 17) := ⟨⟨by decide +kernel, by decide +kernel⟩, List.mem_of_getElem? (i := 18) (by decide +kernel), List.mem_of_getElem? (i := 574) (by decide +kernel), List.mem_of_getElem? (i := 575) (by decide +kernel)⟩
theorem lw_p8 : lw_okq (⟨"NamesInBags", "isAhead", "(I)Z"⟩, 17) := ⟨⟨by decide +kernel, by decide +kernel⟩, List.mem_of_getElem? (i := 18) (by decide +kernel), List.mem_of_getElem? (i := 609) (by decide +kernel), List.mem_of_getElem? (i := 610) (by decide +kernel)⟩
theorem lw_p9 : lw_okq (⟨"NamesInBags", "walkBy", "(LNamesInBags$Rule;II)Z"⟩, 17) := ⟨⟨by decide +kernel, by decide +kernel⟩, List.mem_of_getElem? (i := 18) (by decide +kernel), List.mem_of_getElem? (i := 613) (by decide +kernel), List.mem_of_getElem? (i := 614) (by decide +kernel)⟩
theorem lw_p10 : lw_okq (⟨"NamesInBags$Walk", "openAll", "(LNamesInBags$Course;)V"⟩, 6) := ⟨⟨by decide +kernel, by decide +kernel⟩, List.mem_of_getElem? (i := 209) (by decide +kernel), List.mem_of_getElem? (i := 641) (by decide +kernel), List.mem_of_getElem? (i := 642) (by decide +kernel)⟩
theorem lw_p11 : lw_okq (⟨"NamesInBags$Walk", "drawAll", "(LNamesInBags$Course;)Z"⟩, 6) := ⟨⟨by decide +kernel, by decide +kernel⟩, List.mem_of_getElem? (i := 209) (by decide +kernel), List.mem_of_getElem? (i := 650) (by decide +kernel), List.mem_of_getElem? (i := 651) (by decide +kernel)⟩
theorem lw_p12 : lw_okq (⟨"NamesInBags$Walk", "drawEach", "(LNamesInBags$Course;I)Z"⟩, 6) := ⟨⟨by decide +kernel, by decide +kernel⟩, List.mem_of_getElem? (i := 209) (by decide +kernel), List.mem_of_getElem? (i := 656) (by decide +kernel), List.mem_of_getElem? (i := 657) (by decide +kernel)⟩
theorem lw_p13 : lw_okq (⟨"NamesInBags", "canPack", "(II)Z"⟩, 17) := ⟨⟨by decide +kernel, by decide +kernel⟩, List.mem_of_getElem? (i := 18) (by decide +kernel), List.mem_of_getElem? (i := 749) (by decide +kernel), List.mem_of_getElem? (i := 750) (by decide +kernel)⟩
theorem lw_p14 : lw_okq (⟨"NamesInBags", "packing", "(III)I"⟩, 17) := ⟨⟨by decide +kernel, by decide +kernel⟩, List.mem_of_getElem? (i := 18) (by decide +kernel), List.mem_of_getElem? (i := 757) (by decide +kernel), List.mem_of_getElem? (i := 758) (by decide +kernel)⟩
theorem lw_p15 : lw_okq (⟨"NamesInBags", "walkPacked", "(III)Z"⟩, 17) := ⟨⟨by decide +kernel, by decide +kernel⟩, List.mem_of_getElem? (i := 18) (by decide +kernel), List.mem_of_getElem? (i := 761) (by decide +kernel), List.mem_of_getElem? (i := 762) (by decide +kernel)⟩
def lw_privs_1 : List (MethodName × Nat) := [(⟨"NamesInBags", "readInto", "(LNamesInBags$Rule;)I"⟩, 17), (⟨"NamesInBags", "isDrawingLeft", "()Z"⟩, 17), (⟨"NamesInBags", "readyNow", "()V"⟩, 17), (⟨"NamesInBags$Course", "barredBy", "(III)I"⟩, 14), (⟨"NamesInBags$Course", "kinOf", "(I)I"⟩, 14), (⟨"NamesInBags$Course", "satSince", "(II)I"⟩, 14), (⟨"NamesInBags", "drawSlip", "(I)I"⟩, 17), (⟨"NamesInBags", "follow", "(JI)I"⟩, 17), (⟨"NamesInBags", "isAhead", "(I)Z"⟩, 17), (⟨"NamesInBags", "walkBy", "(LNamesInBags$Rule;II)Z"⟩, 17), (⟨"NamesInBags$Walk", "openAll", "(LNamesInBags$Course;)V"⟩, 6), (⟨"NamesInBags$Walk", "drawAll", "(LNamesInBags$Course;)Z"⟩, 6), (⟨"NamesInBags$Walk", "drawEach", "(LNamesInBags$Course;I)Z"⟩, 6), (⟨"NamesInBags", "canPack", "(II)Z"⟩, 17), (⟨"NamesInBags", "packing", "(III)I"⟩, 17), (⟨"NamesInBags", "walkPacked", "(III)Z"⟩, 17)]
theorem lw_r1 : ∀ q ∈ lw_privs_1, lw_okq q := List.forall_mem_cons.mpr ⟨lw_p0, List.forall_mem_cons.mpr ⟨lw_p1, List.forall_mem_cons.mpr ⟨lw_p2, List.forall_mem_cons.mpr ⟨lw_p3, List.forall_mem_cons.mpr ⟨lw_p4, List.forall_mem_cons.mpr ⟨lw_p5, List.forall_mem_cons.mpr ⟨lw_p6, List.forall_mem_cons.mpr ⟨lw_p7, List.forall_mem_cons.mpr ⟨lw_p8, List.forall_mem_cons.mpr ⟨lw_p9, List.forall_mem_cons.mpr ⟨lw_p10, List.forall_mem_cons.mpr ⟨lw_p11, List.forall_mem_cons.mpr ⟨lw_p12, List.forall_mem_cons.mpr ⟨lw_p13, List.forall_mem_cons.mpr ⟨lw_p14, List.forall_mem_cons.mpr ⟨lw_p15, fun _ h => absurd h List.not_mem_nil⟩⟩⟩⟩⟩⟩⟩⟩⟩⟩⟩⟩⟩⟩⟩⟩
theorem lw_p16 : lw_okq (⟨"NamesInBags", "supposePacked", "(II)V"⟩, 17) := ⟨⟨by decide +kernel, by decide +kernel⟩, List.mem_of_getElem? (i := 18) (by decide +kernel), List.mem_of_getElem? (i := 765) (by decide +kernel), List.mem_of_getElem? (i := 766) (by decide +kernel)⟩
theorem lw_p17 : lw_okq (⟨"NamesInBags", "walkAsListed", "()Z"⟩, 17) := ⟨⟨by decide +kernel, by decide +kernel⟩, List.mem_of_getElem? (i := 18) (by decide +kernel), List.mem_of_getElem? (i := 813) (by decide +kernel), List.mem_of_getElem? (i := 814) (by decide +kernel)⟩
theorem lw_p18 : lw_okq (⟨"java/lang/Throwable", "fillInStackTrace", "(I)Ljava/lang/Throwable;"⟩, 6) := ⟨⟨by decide +kernel, by decide +kernel⟩, List.mem_of_getElem? (i := 881) (by decide +kernel), List.mem_of_getElem? (i := 879) (by decide +kernel), List.mem_of_getElem? (i := 880) (by decide +kernel)⟩
theorem lw_p19 : lw_okq (⟨"NamesInBagsModel", "isPerson", "(I)Z"⟩, 56) := ⟨⟨by decide +kernel, by decide +kernel⟩, List.mem_of_getElem? (i := 924) (by decide +kernel), List.mem_of_getElem? (i := 922) (by decide +kernel), List.mem_of_getElem? (i := 923) (by decide +kernel)⟩
theorem lw_p20 : lw_okq (⟨"NamesInBagsModel", "isSet", "(I)Z"⟩, 56) := ⟨⟨by decide +kernel, by decide +kernel⟩, List.mem_of_getElem? (i := 924) (by decide +kernel), List.mem_of_getElem? (i := 951) (by decide +kernel), List.mem_of_getElem? (i := 952) (by decide +kernel)⟩
theorem lw_p21 : lw_okq (⟨"NamesInBagsModel", "readsRule", "(I)I"⟩, 56) := ⟨⟨by decide +kernel, by decide +kernel⟩, List.mem_of_getElem? (i := 924) (by decide +kernel), List.mem_of_getElem? (i := 975) (by decide +kernel), List.mem_of_getElem? (i := 976) (by decide +kernel)⟩
theorem lw_p22 : lw_okq (⟨"NamesInBagsModel", "readsLine", "()Z"⟩, 56) := ⟨⟨by decide +kernel, by decide +kernel⟩, List.mem_of_getElem? (i := 924) (by decide +kernel), List.mem_of_getElem? (i := 979) (by decide +kernel), List.mem_of_getElem? (i := 980) (by decide +kernel)⟩
theorem lw_p23 : lw_okq (⟨"NamesInBagsModel", "comes", "(C)Z"⟩, 56) := ⟨⟨by decide +kernel, by decide +kernel⟩, List.mem_of_getElem? (i := 924) (by decide +kernel), List.mem_of_getElem? (i := 983) (by decide +kernel), List.mem_of_getElem? (i := 984) (by decide +kernel)⟩
theorem lw_p24 : lw_okq (⟨"NamesInBagsModel", "isDead", "(II)Z"⟩, 56) := ⟨⟨by decide +kernel, by decide +kernel⟩, List.mem_of_getElem? (i := 924) (by decide +kernel), List.mem_of_getElem? (i := 1001) (by decide +kernel), List.mem_of_getElem? (i := 1002) (by decide +kernel)⟩
theorem lw_p25 : lw_okq (⟨"NamesInBagsModel", "barredBy", "(II)I"⟩, 56) := ⟨⟨by decide +kernel, by decide +kernel⟩, List.mem_of_getElem? (i := 924) (by decide +kernel), List.mem_of_getElem? (i := 1005) (by decide +kernel), List.mem_of_getElem? (i := 1006) (by decide +kernel)⟩
theorem lw_p26 : lw_okq (⟨"NamesInBagsModel", "doesBar", "(III)Z"⟩, 56) := ⟨⟨by decide +kernel, by decide +kernel⟩, List.mem_of_getElem? (i := 924) (by decide +kernel), List.mem_of_getElem? (i := 1009) (by decide +kernel), List.mem_of_getElem? (i := 1010) (by decide +kernel)⟩
theorem lw_p27 : lw_okq (⟨"NamesInBagsModel", "opens", "(I)V"⟩, 56) := ⟨⟨by decide +kernel, by decide +kernel⟩, List.mem_of_getElem? (i := 924) (by decide +kernel), List.mem_of_getElem? (i := 1020) (by decide +kernel), List.mem_of_getElem? (i := 1021) (by decide +kernel)⟩
theorem lw_p28 : lw_okq (⟨"NamesInBagsModel", "isOver", "(I)Z"⟩, 56) := ⟨⟨by decide +kernel, by decide +kernel⟩, List.mem_of_getElem? (i := 924) (by decide +kernel), List.mem_of_getElem? (i := 1024) (by decide +kernel), List.mem_of_getElem? (i := 1025) (by decide +kernel)⟩
theorem lw_p29 : lw_okq (⟨"NamesInBagsModel", "draws", "(I)I"⟩, 56) := ⟨⟨by decide +kernel, by decide +kernel⟩, List.mem_of_getElem? (i := 924) (by decide +kernel), List.mem_of_getElem? (i := 1029) (by decide +kernel), List.mem_of_getElem? (i := 1030) (by decide +kernel)⟩
theorem lw_p30 : lw_okq (⟨"NamesInBagsModel", "takes", "(II)Z"⟩, 56) := ⟨⟨by decide +kernel, by decide +kernel⟩, List.mem_of_getElem? (i := 924) (by decide +kernel), List.mem_of_getElem? (i := 1037) (by decide +kernel), List.mem_of_getElem? (i := 1038) (by decide +kernel)⟩
theorem lw_p31 : lw_okq (⟨"NamesInBagsModel", "closes", "(I)V"⟩, 56) := ⟨⟨by decide +kernel, by decide +kernel⟩, List.mem_of_getElem? (i := 924) (by decide +kernel), List.mem_of_getElem? (i := 1041) (by decide +kernel), List.mem_of_getElem? (i := 1042) (by decide +kernel)⟩
def lw_privs_2 : List (MethodName × Nat) := [(⟨"NamesInBags", "supposePacked", "(II)V"⟩, 17), (⟨"NamesInBags", "walkAsListed", "()Z"⟩, 17), (⟨"java/lang/Throwable", "fillInStackTrace", "(I)Ljava/lang/Throwable;"⟩, 6), (⟨"NamesInBagsModel", "isPerson", "(I)Z"⟩, 56), (⟨"NamesInBagsModel", "isSet", "(I)Z"⟩, 56), (⟨"NamesInBagsModel", "readsRule", "(I)I"⟩, 56), (⟨"NamesInBagsModel", "readsLine", "()Z"⟩, 56), (⟨"NamesInBagsModel", "comes", "(C)Z"⟩, 56), (⟨"NamesInBagsModel", "isDead", "(II)Z"⟩, 56), (⟨"NamesInBagsModel", "barredBy", "(II)I"⟩, 56), (⟨"NamesInBagsModel", "doesBar", "(III)Z"⟩, 56), (⟨"NamesInBagsModel", "opens", "(I)V"⟩, 56), (⟨"NamesInBagsModel", "isOver", "(I)Z"⟩, 56), (⟨"NamesInBagsModel", "draws", "(I)I"⟩, 56), (⟨"NamesInBagsModel", "takes", "(II)Z"⟩, 56), (⟨"NamesInBagsModel", "closes", "(I)V"⟩, 56)]
theorem lw_r2 : ∀ q ∈ lw_privs_2, lw_okq q := List.forall_mem_cons.mpr ⟨lw_p16, List.forall_mem_cons.mpr ⟨lw_p17, List.forall_mem_cons.mpr ⟨lw_p18, List.forall_mem_cons.mpr ⟨lw_p19, List.forall_mem_cons.mpr ⟨lw_p20, List.forall_mem_cons.mpr ⟨lw_p21, List.forall_mem_cons.mpr ⟨lw_p22, List.forall_mem_cons.mpr ⟨lw_p23, List.forall_mem_cons.mpr ⟨lw_p24, List.forall_mem_cons.mpr ⟨lw_p25, List.forall_mem_cons.mpr ⟨lw_p26, List.forall_mem_cons.mpr ⟨lw_p27, List.forall_mem_cons.mpr ⟨lw_p28, List.forall_mem_cons.mpr ⟨lw_p29, List.forall_mem_cons.mpr ⟨lw_p30, List.forall_mem_cons.mpr ⟨lw_p31, fun _ h => absurd h List.not_mem_nil⟩⟩⟩⟩⟩⟩⟩⟩⟩⟩⟩⟩⟩⟩⟩⟩
theorem lw_p32 : lw_okq (⟨"NamesInBagsModel", "enters", "(J)V"⟩, 56) := ⟨⟨by decide +kernel, by decide +kernel⟩, List.mem_of_getElem? (i := 924) (by decide +kernel), List.mem_of_getElem? (i := 1045) (by decide +kernel), List.mem_of_getElem? (i := 1046) (by decide +kernel)⟩
theorem lw_p33 : lw_okq (⟨"NamesInBagsModel", "remembers", "()V"⟩, 56) := ⟨⟨by decide +kernel, by decide +kernel⟩, List.mem_of_getElem? (i := 924) (by decide +kernel), List.mem_of_getElem? (i := 1054) (by decide +kernel), List.mem_of_getElem? (i := 1055) (by decide +kernel)⟩
theorem lw_p34 : lw_okq (⟨"NamesInBagsModel", "first", "()J"⟩, 56) := ⟨⟨by decide +kernel, by decide +kernel⟩, List.mem_of_getElem? (i := 924) (by decide +kernel), List.mem_of_getElem? (i := 1058) (by decide +kernel), List.mem_of_getElem? (i := 1059) (by decide +kernel)⟩
theorem lw_p35 : lw_okq (⟨"NamesInBagsModel", "second", "()J"⟩, 56) := ⟨⟨by decide +kernel, by decide +kernel⟩, List.mem_of_getElem? (i := 924) (by decide +kernel), List.mem_of_getElem? (i := 1062) (by decide +kernel), List.mem_of_getElem? (i := 1063) (by decide +kernel)⟩
theorem lw_p36 : lw_okq (⟨"NamesInBagsModel", "goesBy", "(JI)I"⟩, 56) := ⟨⟨by decide +kernel, by decide +kernel⟩, List.mem_of_getElem? (i := 924) (by decide +kernel), List.mem_of_getElem? (i := 1066) (by decide +kernel), List.mem_of_getElem? (i := 1067) (by decide +kernel)⟩
theorem lw_p37 : lw_okq (⟨"NamesInBagsModel", "comesBack", "()V"⟩, 56) := ⟨⟨by decide +kernel, by decide +kernel⟩, List.mem_of_getElem? (i := 924) (by decide +kernel), List.mem_of_getElem? (i := 1071) (by decide +kernel), List.mem_of_getElem? (i := 1072) (by decide +kernel)⟩
theorem lw_p38 : lw_okq (⟨"NamesInBagsModel", "unpacks", "(JJ)V"⟩, 56) := ⟨⟨by decide +kernel, by decide +kernel⟩, List.mem_of_getElem? (i := 924) (by decide +kernel), List.mem_of_getElem? (i := 1075) (by decide +kernel), List.mem_of_getElem? (i := 1076) (by decide +kernel)⟩
theorem lw_p39 : lw_okq (⟨"NamesInBagsModel", "isAsBefore", "()V"⟩, 56) := ⟨⟨by decide +kernel, by decide +kernel⟩, List.mem_of_getElem? (i := 924) (by decide +kernel), List.mem_of_getElem? (i := 1089) (by decide +kernel), List.mem_of_getElem? (i := 1090) (by decide +kernel)⟩
theorem lw_p40 : lw_okq (⟨"NamesInBagsModel", "isLeft", "(I)Z"⟩, 56) := ⟨⟨by decide +kernel, by decide +kernel⟩, List.mem_of_getElem? (i := 924) (by decide +kernel), List.mem_of_getElem? (i := 1105) (by decide +kernel), List.mem_of_getElem? (i := 1106) (by decide +kernel)⟩
theorem lw_p41 : lw_okq (⟨"NamesInBagsModel", "asks", "(I)Z"⟩, 56) := ⟨⟨by decide +kernel, by decide +kernel⟩, List.mem_of_getElem? (i := 924) (by decide +kernel), List.mem_of_getElem? (i := 1109) (by decide +kernel), List.mem_of_getElem? (i := 1110) (by decide +kernel)⟩
theorem lw_p42 : lw_okq (⟨"NamesInBagsModel", "reachesNow", "(I)Z"⟩, 56) := ⟨⟨by decide +kernel, by decide +kernel⟩, List.mem_of_getElem? (i := 924) (by decide +kernel), List.mem_of_getElem? (i := 1113) (by decide +kernel), List.mem_of_getElem? (i := 1114) (by decide +kernel)⟩
theorem lw_p43 : lw_okq (⟨"NamesInBagsModel", "reaches", "(I)Z"⟩, 56) := ⟨⟨by decide +kernel, by decide +kernel⟩, List.mem_of_getElem? (i := 924) (by decide +kernel), List.mem_of_getElem? (i := 1117) (by decide +kernel), List.mem_of_getElem? (i := 1118) (by decide +kernel)⟩
theorem lw_p44 : lw_okq (⟨"NamesInBagsModel", "empties", "(I)V"⟩, 56) := ⟨⟨by decide +kernel, by decide +kernel⟩, List.mem_of_getElem? (i := 924) (by decide +kernel), List.mem_of_getElem? (i := 1121) (by decide +kernel), List.mem_of_getElem? (i := 1122) (by decide +kernel)⟩
theorem lw_p45 : lw_okq (⟨"NamesInBagsModel", "adds", "(IJ)Z"⟩, 56) := ⟨⟨by decide +kernel, by decide +kernel⟩, List.mem_of_getElem? (i := 924) (by decide +kernel), List.mem_of_getElem? (i := 1126) (by decide +kernel), List.mem_of_getElem? (i := 1127) (by decide +kernel)⟩
theorem lw_p46 : lw_okq (⟨"NamesInBagsModel", "goesThrough", "(I)Z"⟩, 56) := ⟨⟨by decide +kernel, by decide +kernel⟩, List.mem_of_getElem? (i := 924) (by decide +kernel), List.mem_of_getElem? (i := 1136) (by decide +kernel), List.mem_of_getElem? (i := 1137) (by decide +kernel)⟩
theorem lw_p47 : lw_okq (⟨"NamesInBagsModel", "opensAll", "(I)V"⟩, 56) := ⟨⟨by decide +kernel, by decide +kernel⟩, List.mem_of_getElem? (i := 924) (by decide +kernel), List.mem_of_getElem? (i := 1140) (by decide +kernel), List.mem_of_getElem? (i := 1141) (by decide +kernel)⟩
def lw_privs_3 : List (MethodName × Nat) := [(⟨"NamesInBagsModel", "enters", "(J)V"⟩, 56), (⟨"NamesInBagsModel", "remembers", "()V"⟩, 56), (⟨"NamesInBagsModel", "first", "()J"⟩, 56), (⟨"NamesInBagsModel", "second", "()J"⟩, 56), (⟨"NamesInBagsModel", "goesBy", "(JI)I"⟩, 56), (⟨"NamesInBagsModel", "comesBack", "()V"⟩, 56), (⟨"NamesInBagsModel", "unpacks", "(JJ)V"⟩, 56), (⟨"NamesInBagsModel", "isAsBefore", "()V"⟩, 56), (⟨"NamesInBagsModel", "isLeft", "(I)Z"⟩, 56), (⟨"NamesInBagsModel", "asks", "(I)Z"⟩, 56), (⟨"NamesInBagsModel", "reachesNow", "(I)Z"⟩, 56), (⟨"NamesInBagsModel", "reaches", "(I)Z"⟩, 56), (⟨"NamesInBagsModel", "empties", "(I)V"⟩, 56), (⟨"NamesInBagsModel", "adds", "(IJ)Z"⟩, 56), (⟨"NamesInBagsModel", "goesThrough", "(I)Z"⟩, 56), (⟨"NamesInBagsModel", "opensAll", "(I)V"⟩, 56)]
theorem lw_r3 : ∀ q ∈ lw_privs_3, lw_okq q := List.forall_mem_cons.mpr ⟨lw_p32, List.forall_mem_cons.mpr ⟨lw_p33, List.forall_mem_cons.mpr ⟨lw_p34, List.forall_mem_cons.mpr ⟨lw_p35, List.forall_mem_cons.mpr ⟨lw_p36, List.forall_mem_cons.mpr ⟨lw_p37, List.forall_mem_cons.mpr ⟨lw_p38, List.forall_mem_cons.mpr ⟨lw_p39, List.forall_mem_cons.mpr ⟨lw_p40, List.forall_mem_cons.mpr ⟨lw_p41, List.forall_mem_cons.mpr ⟨lw_p42, List.forall_mem_cons.mpr ⟨lw_p43, List.forall_mem_cons.mpr ⟨lw_p44, List.forall_mem_cons.mpr ⟨lw_p45, List.forall_mem_cons.mpr ⟨lw_p46, List.forall_mem_cons.mpr ⟨lw_p47, fun _ h => absurd h List.not_mem_nil⟩⟩⟩⟩⟩⟩⟩⟩⟩⟩⟩⟩⟩⟩⟩⟩
theorem lw_p48 : lw_okq (⟨"NamesInBagsModel", "looksAt", "(II)V"⟩, 56) := ⟨⟨by decide +kernel, by decide +kernel⟩, List.mem_of_getElem? (i := 924) (by decide +kernel), List.mem_of_getElem? (i := 1144) (by decide +kernel), List.mem_of_getElem? (i := 1145) (by decide +kernel)⟩
theorem lw_p49 : lw_okq (⟨"NamesInBagsModel", "parts", "(II)Z"⟩, 56) := ⟨⟨by decide +kernel, by decide +kernel⟩, List.mem_of_getElem? (i := 924) (by decide +kernel), List.mem_of_getElem? (i := 1148) (by decide +kernel), List.mem_of_getElem? (i := 1149) (by decide +kernel)⟩
theorem lw_p50 : lw_okq (⟨"NamesInBagsModel", "drawsFrom", "(II)Z"⟩, 56) := ⟨⟨by decide +kernel, by decide +kernel⟩, List.mem_of_getElem? (i := 924) (by decide +kernel), List.mem_of_getElem? (i := 1152) (by decide +kernel), List.mem_of_getElem? (i := 1153) (by decide +kernel)⟩
theorem lw_p51 : lw_okq (⟨"NamesInBagsModel", "notes", "(I)V"⟩, 56) := ⟨⟨by decide +kernel, by decide +kernel⟩, List.mem_of_getElem? (i := 924) (by decide +kernel), List.mem_of_getElem? (i := 1156) (by decide +kernel), List.mem_of_getElem? (i := 1157) (by decide +kernel)⟩
theorem lw_p52 : lw_okq (⟨"NamesInBagsModel", "satAt", "(II)I"⟩, 56) := ⟨⟨by decide +kernel, by decide +kernel⟩, List.mem_of_getElem? (i := 924) (by decide +kernel), List.mem_of_getElem? (i := 1160) (by decide +kernel), List.mem_of_getElem? (i := 1161) (by decide +kernel)⟩
theorem lw_p53 : lw_okq (⟨"NamesInBagsModel", "anyOf", "(I)J"⟩, 56) := ⟨⟨by decide +kernel, by decide +kernel⟩, List.mem_of_getElem? (i := 924) (by decide +kernel), List.mem_of_getElem? (i := 1164) (by decide +kernel), List.mem_of_getElem? (i := 1165) (by decide +kernel)⟩
theorem lw_p54 : lw_okq (⟨"NamesInBagsModel", "endPart", "(I)J"⟩, 56) := ⟨⟨by decide +kernel, by decide +kernel⟩, List.mem_of_getElem? (i := 924) (by decide +kernel), List.mem_of_getElem? (i := 1168) (by decide +kernel), List.mem_of_getElem? (i := 1169) (by decide +kernel)⟩
theorem lw_p55 : lw_okq (⟨"NamesInBagsModel", "filled", "(I)J"⟩, 56) := ⟨⟨by decide +kernel, by decide +kernel⟩, List.mem_of_getElem? (i := 924) (by decide +kernel), List.mem_of_getElem? (i := 1184) (by decide +kernel), List.mem_of_getElem? (i := 1185) (by decide +kernel)⟩
theorem lw_p56 : lw_okq (⟨"NamesInBagsModel", "housed", "(I)I"⟩, 56) := ⟨⟨by decide +kernel, by decide +kernel⟩, List.mem_of_getElem? (i := 924) (by decide +kernel), List.mem_of_getElem? (i := 1196) (by decide +kernel), List.mem_of_getElem? (i := 1197) (by decide +kernel)⟩
theorem lw_p57 : lw_okq (⟨"NamesInBagsModel", "sureBits", "()I"⟩, 56) := ⟨⟨by decide +kernel, by decide +kernel⟩, List.mem_of_getElem? (i := 924) (by decide +kernel), List.mem_of_getElem? (i := 1208) (by decide +kernel), List.mem_of_getElem? (i := 1209) (by decide +kernel)⟩
theorem lw_p58 : lw_okq (⟨"NamesInBagsModel", "someBits", "()I"⟩, 56) := ⟨⟨by decide +kernel, by decide +kernel⟩, List.mem_of_getElem? (i := 924) (by decide +kernel), List.mem_of_getElem? (i := 1212) (by decide +kernel), List.mem_of_getElem? (i := 1213) (by decide +kernel)⟩
theorem lw_p59 : lw_okq (⟨"NamesInBagsModel", "isPacking", "(III)Z"⟩, 56) := ⟨⟨by decide +kernel, by decide +kernel⟩, List.mem_of_getElem? (i := 924) (by decide +kernel), List.mem_of_getElem? (i := 1228) (by decide +kernel), List.mem_of_getElem? (i := 1229) (by decide +kernel)⟩
theorem lw_p60 : lw_okq (⟨"NamesInBagsModel", "packing", "(III)I"⟩, 56) := ⟨⟨by decide +kernel, by decide +kernel⟩, List.mem_of_getElem? (i := 924) (by decide +kernel), List.mem_of_getElem? (i := 1232) (by decide +kernel), List.mem_of_getElem? (i := 1233) (by decide +kernel)⟩
theorem lw_p61 : lw_okq (⟨"NamesInBagsModel", "tries", "(III)Z"⟩, 56) := ⟨⟨by decide +kernel, by decide +kernel⟩, List.mem_of_getElem? (i := 924) (by decide +kernel), List.mem_of_getElem? (i := 1236) (by decide +kernel), List.mem_of_getElem? (i := 1237) (by decide +kernel)⟩
theorem lw_p62 : lw_okq (⟨"NamesInBagsModel", "unlike", "(I)J"⟩, 56) := ⟨⟨by decide +kernel, by decide +kernel⟩, List.mem_of_getElem? (i := 924) (by decide +kernel), List.mem_of_getElem? (i := 1248) (by decide +kernel), List.mem_of_getElem? (i := 1249) (by decide +kernel)⟩
theorem lw_p63 : lw_okq (⟨"NamesInBagsModel", "sumBelow", "(I)J"⟩, 56) := ⟨⟨by decide +kernel, by decide +kernel⟩, List.mem_of_getElem? (i := 924) (by decide +kernel), List.mem_of_getElem? (i := 1263) (by decide +kernel), List.mem_of_getElem? (i := 1264) (by decide +kernel)⟩
def lw_privs_4 : List (MethodName × Nat) := [(⟨"NamesInBagsModel", "looksAt", "(II)V"⟩, 56), (⟨"NamesInBagsModel", "parts", "(II)Z"⟩, 56), (⟨"NamesInBagsModel", "drawsFrom", "(II)Z"⟩, 56), (⟨"NamesInBagsModel", "notes", "(I)V"⟩, 56), (⟨"NamesInBagsModel", "satAt", "(II)I"⟩, 56), (⟨"NamesInBagsModel", "anyOf", "(I)J"⟩, 56), (⟨"NamesInBagsModel", "endPart", "(I)J"⟩, 56), (⟨"NamesInBagsModel", "filled", "(I)J"⟩, 56), (⟨"NamesInBagsModel", "housed", "(I)I"⟩, 56), (⟨"NamesInBagsModel", "sureBits", "()I"⟩, 56), (⟨"NamesInBagsModel", "someBits", "()I"⟩, 56), (⟨"NamesInBagsModel", "isPacking", "(III)Z"⟩, 56), (⟨"NamesInBagsModel", "packing", "(III)I"⟩, 56), (⟨"NamesInBagsModel", "tries", "(III)Z"⟩, 56), (⟨"NamesInBagsModel", "unlike", "(I)J"⟩, 56), (⟨"NamesInBagsModel", "sumBelow", "(I)J"⟩, 56)]
theorem lw_r4 : ∀ q ∈ lw_privs_4, lw_okq q := List.forall_mem_cons.mpr ⟨lw_p48, List.forall_mem_cons.mpr ⟨lw_p49, List.forall_mem_cons.mpr ⟨lw_p50, List.forall_mem_cons.mpr ⟨lw_p51, List.forall_mem_cons.mpr ⟨lw_p52, List.forall_mem_cons.mpr ⟨lw_p53, List.forall_mem_cons.mpr ⟨lw_p54, List.forall_mem_cons.mpr ⟨lw_p55, List.forall_mem_cons.mpr ⟨lw_p56, List.forall_mem_cons.mpr ⟨lw_p57, List.forall_mem_cons.mpr ⟨lw_p58, List.forall_mem_cons.mpr ⟨lw_p59, List.forall_mem_cons.mpr ⟨lw_p60, List.forall_mem_cons.mpr ⟨lw_p61, List.forall_mem_cons.mpr ⟨lw_p62, List.forall_mem_cons.mpr ⟨lw_p63, fun _ h => absurd h List.not_mem_nil⟩⟩⟩⟩⟩⟩⟩⟩⟩⟩⟩⟩⟩⟩⟩⟩
theorem lw_p64 : lw_okq (⟨"NamesInBagsModel", "lets", "(II)J"⟩, 56) := ⟨⟨by decide +kernel, by decide +kernel⟩, List.mem_of_getElem? (i := 924) (by decide +kernel), List.mem_of_getElem? (i := 1279) (by decide +kernel), List.mem_of_getElem? (i := 1280) (by decide +kernel)⟩
theorem lw_p65 : lw_okq (⟨"NamesInBagsModel", "keepsListed", "(I)V"⟩, 56) := ⟨⟨by decide +kernel, by decide +kernel⟩, List.mem_of_getElem? (i := 924) (by decide +kernel), List.mem_of_getElem? (i := 1283) (by decide +kernel), List.mem_of_getElem? (i := 1284) (by decide +kernel)⟩
theorem lw_p66 : lw_okq (⟨"NamesInBagsModel", "toldBits", "()I"⟩, 56) := ⟨⟨by decide +kernel, by decide +kernel⟩, List.mem_of_getElem? (i := 924) (by decide +kernel), List.mem_of_getElem? (i := 1308) (by decide +kernel), List.mem_of_getElem? (i := 1309) (by decide +kernel)⟩
def lw_privs_5 : List (MethodName × Nat) := [(⟨"NamesInBagsModel", "lets", "(II)J"⟩, 56), (⟨"NamesInBagsModel", "keepsListed", "(I)V"⟩, 56), (⟨"NamesInBagsModel", "toldBits", "()I"⟩, 56)]
theorem lw_r5 : ∀ q ∈ lw_privs_5, lw_okq q := List.forall_mem_cons.mpr ⟨lw_p64, List.forall_mem_cons.mpr ⟨lw_p65, List.forall_mem_cons.mpr ⟨lw_p66, fun _ h => absurd h List.not_mem_nil⟩⟩⟩
def lw_privs : List (MethodName × Nat) := lw_privs_1 ++ (lw_privs_2 ++ (lw_privs_3 ++ (lw_privs_4 ++ (lw_privs_5))))
def lw_tbl : List Cond := k2_sels lw_privs ++ tables_1
theorem lw_privs_ok : ∀ q ∈ lw_privs, lw_okq q := by
  show ∀ q ∈ lw_privs_1 ++ (lw_privs_2 ++ (lw_privs_3 ++ (lw_privs_4 ++ (lw_privs_5)))), lw_okq q
  exact List.forall_mem_append.mpr ⟨lw_r1, List.forall_mem_append.mpr ⟨lw_r2, List.forall_mem_append.mpr ⟨lw_r3, List.forall_mem_append.mpr ⟨lw_r4, lw_r5⟩⟩⟩⟩
end
section
-- ===== end of PART A; then your names; then what follows =====
/-! THE CLAIM OUT OF ONE WALK OF THE LAW'S BODY. Your part is whole_start (and what it stands on); all else here is the same for every law, but numbers. -/
def R_law : String := "NamesInBagsLaw"
def lw_P (b : Addr) (xs : List Int32) (args : Array Value) (s : State) : Prop := args = #[.ref b] ∧ s.IntsAt b xs ∧ xs.length ≤ 6 ∧ (Jvm.Cond.and given_1 narrow_1).before args s = true
def lw_Q (_ : Array Value) (s : State) (o : Outcome) (t : State) : Prop := o = .returned (some (.int 1)) ∧ Framed s o t [] 600002 7302232
def lw_Z (below : List Frame) (a : Array Value) (s : State) : State → Prop := fun t => ∃ o, t.status = .running ∧ Ended t below o ∧ lw_Q a s o t
/-- the law's own end, with 1 on the stack, nothing written that was there before, its room as the claim has it -/
theorem lw_ret {p : Program} {l : Launch} {e : Env} {s : State} {m : MethodId} {below : List Frame} {meth : Method} {c : Code} {b : Nat} (hx : p.tables.exec = Jvm.exec) (hb : c.code = code) (hr : meth.sig.returnType = ret) (hlocks : meth.locks = false) {pc : Nat} {H : Heap} {ls : Array Slot} (hdg : decode code pc = .ok (.ireturn, 1)) : W p l e room_1 s m #[Value.ref b] below meth c H [] 600002 7302232 (lw_Z below #[Value.ref b] s) (F0 m pc ls [.int 1]) := by
  intro T hT X
  obtain ⟨fs, hret, hrun, hended, hW, hframe⟩ := X.leave (v := some (.int 1)) (hlocks := hlocks) (fun h => by rw [hr] at h; cases h)
  have hmeth' : T.vm.method? m = some meth := X.method'
  refine ⟨T.setFrames fs, ?_, .returned (some (.int 1)), hrun, hended, rfl, ⟨_, rfl⟩, hW, hframe⟩
  jvm_step X.here [X.here.top, hx, hb, hdg, hmeth', hr, ret, narrow_b1]
  (try refine ⟨rfl, ?_⟩); (try refine ⟨rfl, ?_⟩)
  first | (intro acts; rw [hret _ acts rfl rfl rfl]) | rw [hret _ _ rfl rfl rfl]
  exact Steps.refl _
/-- what holds at the law's entry: the machine, the code, the tables' words (any of lw_tbl by 'hts w (by decide +kernel)'), the script of L ints xs at the cell b, what the Statement gives of the start (any of its parts by flat_of_before) -/
def lw_At (p : Program) (s : State) (m : MethodId) (meth : Method) (c : Code) (b L : Nat) (xs : Nat → Int32) : Prop :=
  p.tables.exec = Jvm.exec ∧ c.code = code ∧ meth.sig.returnType = ret ∧ c.maxLocals = 8 ∧ s.vm.findClass R_law = some m.cls ∧ (∀ w ∈ lw_tbl, w.before #[Value.ref b] s = true) ∧ va_X b L xs s s.heap ∧ b < s.heap.size ∧ meth.locks = false ∧ (Jvm.Cond.and given_1 narrow_1).before #[Value.ref b] s = true
end
section
/-! ===== BEGIN words of one list among another's, by their places ===== -/
theorem goodIn_r {big : List Cond} (ws : List Cond) (ps : List Nat) (hp : ws = ps.filterMap (fun i => big[i]?)) (h : ws.all goodWord = true) : GoodIn big ws := by
  intro w hw
  have h1 := List.all_eq_true.mp h w hw
  rw [hp] at hw
  obtain ⟨i, -, hi⟩ := List.mem_filterMap.mp hw
  have hm : w ∈ big := by first | exact List.mem_of_getElem? hi | exact List.getElem?_mem hi
  exact ⟨hm, good_of_word h1⟩
theorem goodIn_app {big a b : List Cond} (ha : GoodIn big a) (hb : GoodIn big b) : GoodIn big (a ++ b) := fun w h => (List.mem_append.mp h).elim (ha w) (hb w)
theorem goodIn_ca {big a b : List Cond} {c : Cond} (ha : GoodIn big (c :: a)) (hb : GoodIn big b) : GoodIn big (c :: (a ++ b)) := fun w h => (List.mem_cons.mp h).elim (fun e => ha w (List.mem_cons.mpr (Or.inl e))) (fun h => (List.mem_append.mp h).elim (fun h => ha w (List.mem_cons.mpr (Or.inr h))) (hb w))
theorem goodIn_sub {big ws : List Cond} (hm : ∀ w ∈ ws, w ∈ big) (h : ws.all goodWord = true) : GoodIn big ws := fun w hw => ⟨hm w hw, good_of_word (List.all_eq_true.mp h w hw)⟩
/-! ===== END ===== -/

/-! ===== BEGIN exceptions that leave a method, and their catching by the caller (launches without stack traces) ===== -/
section VXA
/-! The laws vx_back, vx_callV, vx_callS, vx_callSW, vx_throw0, vx_throwS follow proofs of the library, with one case more: JvmDerived/Free/Laws.lean (Back.of_free), Shelf42/LK1.lean (callV, callS), Shelf/KitTraced.lean (throwNew0V, throwNewS). -/
/-- where a method has thrown q: the class by its name, the cell, what was written, the world -/
def vx_T (XC : String → State → State → Prop) (st : State) (q : Addr) (t : State) (mc ms : Nat) (free : Addr → Prop) : Prop :=
  ∃ (E : String) (ce : Cell) (L : List Loc), XC E st t ∧ t.heap[q]? = some ce ∧ ce.vm = .none ∧ st.vm.findClass E = some ce.cls ∧ st.WarmedH t.vm ∧ st.sameButNew ({ t with vm := st.vm } : State) L mc ms ∧ ∀ z ∈ L, free z.base
def vx_Q (Qc : Array Value → State → Outcome → State → Prop) (XC : String → State → State → Prop) (mc ms : Nat) (free : Addr → Prop) : Array Value → State → Outcome → State → Prop := fun a st o t =>
  (Qc a st o t ∧ ∃ L, FrameEnd st o t L mc ms ∧ ∀ q ∈ L, free q.base) ∨ ∃ q, o = .threw q ∧ vx_T XC st q t mc ms free
/-- a callee that returns or throws -/
def vx_Met (l : Launch) (y : MethodName) (ws : List Cond) (rm : Room) (Pc : Array Value → State → Prop) (Qc : Array Value → State → Outcome → State → Prop) (XC : String → State → State → Prop) (mc ms : Nat) (free : Addr → Prop) : Prop :=
  MetFree l y (headSpec ws rm) Pc (fun _ _ _ _ _ => True) (vx_Q Qc XC mc ms free)
def vx_Post (XC : String → State → State → Prop) (mc ms : Nat) (free : Addr → Prop) : Pt → Array Value → Addr → Pt → Prop := fun A a q B =>
  ∃ (g : JFrame) (mk : MethodId) (t : State) (L : List Loc) (E : String) (ce : Cell), B.U.heap = t.heap ∧ B.U.vm = t.vm ∧ XC E (A.U.calling g mk a) t ∧ t.heap[q]? = some ce ∧ ce.vm = .none ∧ A.U.vm.findClass E = some ce.cls ∧ B.locs = A.locs ++ L ∧ (∀ z ∈ L, free z.base) ∧ B.cells = A.cells + mc ∧ B.slots = A.slots + ms
def vx_Back (l : Launch) (R : Room) (p : Program) (e : Env) (below : List Frame) (s : State) (sargs : Array Value) (y : MethodName) (len W9 : Nat)
    (Pre : Pt → Array Value → Prop) (Post : Pt → Array Value → Option Value → Pt → Prop) (PostX : Pt → Array Value → Addr → Pt → Prop) : Prop :=
  ∀ (m : MethodId) (meth : Method) (c : Code) (A : Pt) (g : JFrame) (ig : Instr) (mk : MethodId) (a : Array Value),
    Stand p l e R s m sargs below meth c A.U A.locs A.cells A.slots → g.method = m → g.locals.size = c.maxLocals → decode c.code g.pc = .ok (ig, len) →
    2 * g.monitorRoom + (g.stack.map fun v => v.category).sum ≤ W9 → A.U.methodNamed? y = some mk → Pre A a →
    (∃ (v : Option Value) (B : Pt), Stand p l e R s m sargs below meth c B.U B.locs B.cells B.slots ∧ Post A a v B ∧
      Steps p.tables e below (doInvoke e (A.U.setTop g) [] mk a).1 (B.U.setTop { g with pc := g.pc + len, stack := v.toList ++ g.stack })) ∨
    (∃ (q : Addr) (B : Pt), Stand p l e R s m sargs below meth c B.U B.locs B.cells B.slots ∧ PostX A a q B ∧
      Steps p.tables e below (doInvoke e (A.U.setTop g) [] mk a).1 ((B.U.setTop g).pushFrame (.throwing q)))
section Payer
variable {l : Launch} {R : Room} {p : Program} {e : Env} {below : List Frame} {s : State} {sargs : Array Value} {y : MethodName} {len W9 : Nat}
theorem vx_back {ws : List Cond} {rm : Room} {Pc : Array Value → State → Prop} {Qc : Array Value → State → Outcome → State → Prop} {XC : String → State → State → Prop} {mc ms : Nat} {free : Addr → Prop} {bytes : ByteArray} {maxL : Nat} {ret : Option FieldType}
    (hM : vx_Met l y ws rm Pc Qc XC mc ms free) (hblind : FrameBlind Pc) (hrc : rm.cells = mc) (hrs : rm.slots = ms)
    (hframes : rm.frames + 1 ≤ R.frames) (hlocals : W9 + (maxL + 11) + rm.locals ≤ R.locals)
    (hws : ∀ w ∈ ws, ∀ a' U, s.WarmedH U.vm → w.before a' U = true) (hcode : Cond.code y bytes maxL ret ∈ ws) (hinit : ∀ a' U, s.WarmedH U.vm → (Cond.initialized y.cls).before a' U = true) :
    vx_Back l R p e below s sargs y len W9 (PreOf R mc ms Pc) (PostOf Qc mc ms free) (vx_Post XC mc ms free) := by
  intro m meth c A g ig mk a X hg hsize hdg hW hn hp
  have h1 : (headSpec ws rm).pre.before a A.U = true := atoms_intro fun w hw => hws w hw _ _ X.warmed
  have h2 : (Cond.code y bytes maxL ret).before a A.U = true := hws _ hcode _ _ X.warmed
  have h3 : (Cond.initialized y.cls).before a A.U = true := hinit _ _ X.warmed
  have h4 : A.cells + (headSpec ws rm).room.cells ≤ R.cells := by rw [show (headSpec ws rm).room.cells = mc from hrc]; exact hp.1
  have h5 : A.slots + (headSpec ws rm).room.slots ≤ R.slots := by rw [show (headSpec ws rm).room.slots = ms from hrs]; exact hp.2.1
  have hPc : Pc a (A.U.calling g mk a) := hblind _ _ _ _ hp.2.2
  obtain ⟨U, Ls, c0, s0⟩ := A
  dsimp only [Pt.U, Pt.locs, Pt.cells, Pt.slots] at h1 h2 h3 h4 h5 X hn hPc ⊢
  obtain ⟨methY, cY, hmY, hcY, -, hlY, -, -, -, -⟩ := Cond.code_spec hn h2
  obtain ⟨kY, hkY, -⟩ := className_of_methodNamed hn
  have hinitY : kY.init = .initialized := Cond.initialized_spec (findClass_of_methodNamed hn) hkY h3
  have h : At U g.method c below := by rw [hg]; exact X.here
  have hlocals9 : W9 + (maxL + 11) + (headSpec ws rm).room.locals ≤ R.locals := hlocals
  have happ : (headSpec ws rm).appliesLoose y e.platform (U.calling g mk a) = true :=
    Spec.appliesLoose_calling (g := g) h hdg hn hkY hinitY
      (X.room_calling (g := g) (R' := (headSpec ws rm).room) hsize hmY hcY hframes (by rw [hlY]; omega) h4 h5) h1
  obtain ⟨mid, hmid⟩ := h.above
  have hfr : (U.setTop g).frames = (.java g :: mid) ++ below := by rw [State.frames_setTop' g h.top, hmid]; rfl
  obtain ⟨o, s₂, hsteps, -, hend, hq⟩ := Steps.callFree hM p X.admits X.cas X.clock (acts := []) hfr happ hPc trivial
  have hq' : vx_Q Qc XC mc ms free a (U.calling g mk a) o s₂ := hq
  rw [State.frames_setTop' g h.top] at hend
  obtain ⟨g₀, hg0⟩ := Option.isSome_iff_exists.mp h.top
  obtain ⟨r, hr⟩ := State.topJava?_eq_some.mp hg0
  have hr' : (({ U with heap := s₂.heap, slotsUsed := s₂.slotsUsed } : State).setVm s₂.vm).frames = .java g₀ :: r := hr
  rcases hq' with ⟨hqc, L, hfe, hL⟩ | ⟨q, rfl, E, ce, L, hx, hce, hcv, hcl, hW₂, hsm, hL⟩
  · obtain ⟨⟨v, rfl⟩, hW₂, e2, q2, q3, q4, q5, q6⟩ := id hfe
    have e3 : s₂ = ({ (U.calling g mk a).setFrames s₂.frames with heap := s₂.heap, slotsUsed := s₂.slotsUsed } : State).setVm s₂.vm := by
      have : s₂ = ({ s₂ with vm := (U.calling g mk a).vm } : State).setVm s₂.vm := rfl
      rw [e2] at this
      exact this
    obtain ⟨c₂, i₂, len₂, hc₂, hd₂, hf₂⟩ := hend
    have hW' : U.WarmedH s₂.vm := hW₂
    have hcc : c₂ = c := by
      have h1 : s₂.code? g.method = U.code? g.method := by
        rw [State.code?_eq, State.code?_eq, hW'.alike.method?]
      exact Option.some.inj (hc₂.symm.trans (h1.trans h.code))
    subst hcc
    have hlen : len₂ = len := by rw [hdg] at hd₂; cases hd₂; rfl
    subst hlen
    have hs₂ : s₂ = (({ U with heap := s₂.heap, slotsUsed := s₂.slotsUsed } : State).setVm s₂.vm).setTop { g with pc := g.pc + len₂, stack := v.toList ++ g.stack } := by
      refine e3.trans ?_
      rw [hf₂, State.calling_eq h.top, State.setFrames_setFrames, State.setTop_of_frames _ hr', hr]
      rfl
    have hsame : U.sameButNew ({ U with heap := s₂.heap, slotsUsed := s₂.slotsUsed } : State) L mc ms := by
      refine ⟨?_, q2, q3, q4, q5, q6⟩
      obtain ⟨t, ht, -⟩ := State.frames_cons hr
      show ({ U with heap := s₂.heap, slotsUsed := s₂.slotsUsed } : State) = { U.setFrames U.frames with heap := s₂.heap, slotsUsed := s₂.slotsUsed }
      rw [State.setFrames_self ht]
    subst hg
    refine Or.inl ⟨v, ⟨(({ U with heap := s₂.heap, slotsUsed := s₂.slotsUsed } : State).setVm s₂.vm), Ls ++ L, c0 + mc, s0 + ms⟩,
      ⟨X.admits, X.cas, X.clock, X.frames, X.room, X.hears, X.method, X.code, (X.here.setHeapUsed s₂.heap s₂.slotsUsed).setVm hW'.alike, X.tail, State.WarmedH.trans X.warmed hW', X.limits, X.bytes, X.same.trans (hsame.setVm s.vm)⟩,
      ⟨g, mk, s₂, L, rfl, rfl, hqc, rfl, hL, rfl, rfl⟩, ?_⟩
    show Steps p.tables e below _ ((({ U with heap := s₂.heap, slotsUsed := s₂.slotsUsed } : State).setVm s₂.vm).setTop { g with pc := g.pc + len₂, stack := v.toList ++ g.stack })
    rw [← hs₂]
    exact hsteps
  · obtain ⟨e2, q2, q3, q4, q5, q6⟩ := id hsm
    have e3 : s₂ = ({ (U.calling g mk a).setFrames s₂.frames with heap := s₂.heap, slotsUsed := s₂.slotsUsed } : State).setVm s₂.vm := by
      have : s₂ = ({ s₂ with vm := (U.calling g mk a).vm } : State).setVm s₂.vm := rfl
      rw [e2] at this
      exact this
    have hf₂ : s₂.frames = .throwing q :: .java g :: U.frames.tail := hend
    have hW' : U.WarmedH s₂.vm := hW₂
    have hs₂ : s₂ = ((({ U with heap := s₂.heap, slotsUsed := s₂.slotsUsed } : State).setVm s₂.vm).setTop g).pushFrame (.throwing q) := by
      refine e3.trans ?_
      rw [hf₂, State.calling_eq h.top, State.setFrames_setFrames, State.pushFrame, State.frames_setTop _ hr', State.setTop_of_frames _ hr', State.setFrames_setFrames, hr]
      rfl
    have hsame : U.sameButNew ({ U with heap := s₂.heap, slotsUsed := s₂.slotsUsed } : State) L mc ms := by
      refine ⟨?_, q2, q3, q4, q5, q6⟩
      obtain ⟨t, ht, -⟩ := State.frames_cons hr
      show ({ U with heap := s₂.heap, slotsUsed := s₂.slotsUsed } : State) = { U.setFrames U.frames with heap := s₂.heap, slotsUsed := s₂.slotsUsed }
      rw [State.setFrames_self ht]
    subst hg
    refine Or.inr ⟨q, ⟨(({ U with heap := s₂.heap, slotsUsed := s₂.slotsUsed } : State).setVm s₂.vm), Ls ++ L, c0 + mc, s0 + ms⟩,
      ⟨X.admits, X.cas, X.clock, X.frames, X.room, X.hears, X.method, X.code, (X.here.setHeapUsed s₂.heap s₂.slotsUsed).setVm hW'.alike, X.tail, State.WarmedH.trans X.warmed hW', X.limits, X.bytes, X.same.trans (hsame.setVm s.vm)⟩,
      ⟨g, mk, s₂, L, E, ce, rfl, rfl, hx, hce, hcv, hcl, rfl, hL, rfl, rfl⟩, ?_⟩
    show Steps p.tables e below _ (((({ U with heap := s₂.heap, slotsUsed := s₂.slotsUsed } : State).setVm s₂.vm).setTop g).pushFrame (.throwing q))
    rw [← hs₂]
    exact hsteps
end Payer
section Calls
variable {p : Program} {l : Launch} {e : Env} {R : Room} {s : State} {m : MethodId} {args : Array Value} {below : List Frame} {meth : Method} {c : Code} {T : State} {locs : List Loc} {cells slots : Nat}
theorem vx_callV (X : Stand p l e R s m args below meth c T locs cells slots) (hexec : p.tables.exec = Jvm.exec) {own C : String} {index : Nat} {y : MethodName} {bytes : ByteArray} {maxL : Nat} {ret : Option FieldType}
    (hown : s.vm.findClass own = some m.cls) (hlink : (Cond.methodLink own index y).before args s = true) (hinst : (Cond.instanceMethod y).before args s = true) (hsel : (Cond.selects C y y).before args s = true)
    (hcode : (Cond.code y bytes maxL ret).before args s = true) (hy : y.cls ≠ "java/lang/invoke/MethodHandle" ∧ y.cls ≠ "java/lang/invoke/VarHandle")
    {W9 : Nat} {Pre : Pt → Array Value → Prop} {Post : Pt → Array Value → Option Value → Pt → Prop} {PostX : Pt → Array Value → Addr → Pt → Prop} (hK : vx_Back l R p e below s args y 3 W9 Pre Post PostX)
    {b : Addr} {cellB : Cell} (hcell : T.heap[b]? = some cellB) (hobj : cellB.vm.isStatics = false) (hcls : s.vm.findClass C = some cellB.cls)
    {g : JFrame} (hg : g.method = m) (hsize : g.locals.size = c.maxLocals) {argsL rest : List Value} (hlen : ∀ sig, parseMethodDescriptor y.desc = some sig → argsL.length = sig.parameters.length)
    (hstack : g.stack = argsL.reverse ++ .ref b :: rest) (hW : 2 * g.monitorRoom + (rest.map fun v => v.category).sum ≤ W9) (hdg : decode c.code g.pc = .ok (.invokevirtual index, 3))
    (hpre : ∀ vm₁, s.WarmedH vm₁ → Pre ⟨T.setVm vm₁, locs, cells, slots⟩ (Value.ref b :: argsL).toArray) :
    (∃ (v : Option Value) (vm₁ : Vm) (B : Pt), s.WarmedH vm₁ ∧ Stand p l e R s m args below meth c B.U B.locs B.cells B.slots ∧ Post ⟨T.setVm vm₁, locs, cells, slots⟩ (Value.ref b :: argsL).toArray v B ∧
      ∀ target, Steps p.tables e below (B.U.setTop { g with pc := g.pc + 3, stack := v.toList ++ rest }) target → Steps p.tables e below (T.setTop g) target) ∨
    (∃ (q : Addr) (vm₁ : Vm) (B : Pt), s.WarmedH vm₁ ∧ Stand p l e R s m args below meth c B.U B.locs B.cells B.slots ∧ PostX ⟨T.setVm vm₁, locs, cells, slots⟩ (Value.ref b :: argsL).toArray q B ∧
      Steps p.tables e below (T.setTop g) ((B.U.setTop { g with stack := rest }).pushFrame (.throwing q))) := by
  obtain ⟨mk, methM, hnamed, hmethM, hstM, habM⟩ := Cond.instanceMethod_spec hinst
  obtain ⟨methM', cM, hmethM', -, -, -, -, -, -, hsigM⟩ := Cond.code_spec hnamed hcode
  cases hmethM.symm.trans hmethM'
  obtain ⟨c2, r2, m2, q1, q2, q3, q4, kP, hkP, hkPi⟩ := Cond.selects_spec hsel
  cases hcls.symm.trans q1
  cases (State.methodFound?_of_named hnamed hy).symm.trans q2
  cases hnamed.symm.trans q3
  have hselP : selectMethod e.platform s.vm cellB.cls mk = .method mk := by rw [Launch.admits_selectMethod X.admits]; exact q4
  obtain ⟨vm₁, X₁, hstep₁⟩ := X.invokevirtual hexec hown hlink hnamed hmethM hstM hkP hkPi hy (a := b) (cell := cellB) hcell
    (fun z h => by rw [h] at hobj; cases hobj) hselP hmethM habM hkP hkPi (g := g) hg (argsL := argsL) (rest := rest) (hlen _ hsigM) hstack hdg
  rcases hK m meth c ⟨T.setVm vm₁, locs, cells, slots⟩ { g with stack := rest } (.invokevirtual index) mk (Value.ref b :: argsL).toArray X₁ hg hsize hdg hW (X₁.named hnamed) (hpre vm₁ X₁.warmed) with ⟨v, B, X', hpost, hsteps⟩ | ⟨q, B, X', hpost, hsteps⟩
  · exact Or.inl ⟨v, vm₁, B, X₁.warmed, X', hpost, fun target h => hstep₁ _ fun acts => by rw [doInvoke_state]; exact hsteps.trans h⟩
  · exact Or.inr ⟨q, vm₁, B, X₁.warmed, X', hpost, hstep₁ _ fun acts => by rw [doInvoke_state]; exact hsteps⟩
theorem vx_callS (X : Stand p l e R s m args below meth c T locs cells slots) (hexec : p.tables.exec = Jvm.exec) {own : String} {index : Nat} {y : MethodName} {bytes : ByteArray} {maxL : Nat} {ret : Option FieldType}
    (hown : s.vm.findClass own = some m.cls) (hlink : (Cond.methodLink own index y).before args s = true) (hstat : (Cond.static y).before args s = true) (hinit : (Cond.initialized y.cls).before args s = true)
    (hcode : (Cond.code y bytes maxL ret).before args s = true) (hy : y.cls ≠ "java/lang/invoke/MethodHandle" ∧ y.cls ≠ "java/lang/invoke/VarHandle")
    {W9 : Nat} {Pre : Pt → Array Value → Prop} {Post : Pt → Array Value → Option Value → Pt → Prop} {PostX : Pt → Array Value → Addr → Pt → Prop} (hK : vx_Back l R p e below s args y 3 W9 Pre Post PostX)
    {g : JFrame} (hg : g.method = m) (hsize : g.locals.size = c.maxLocals) {argsL rest : List Value} (hlen : ∀ sig, parseMethodDescriptor y.desc = some sig → argsL.length = sig.parameters.length)
    (hstack : g.stack = argsL.reverse ++ rest) (hW : 2 * g.monitorRoom + (rest.map fun v => v.category).sum ≤ W9) (hdg : decode c.code g.pc = .ok (.invokestatic index, 3))
    (hpre : ∀ vm₁, s.WarmedH vm₁ → Pre ⟨T.setVm vm₁, locs, cells, slots⟩ argsL.toArray) :
    (∃ (v : Option Value) (vm₁ : Vm) (B : Pt), s.WarmedH vm₁ ∧ Stand p l e R s m args below meth c B.U B.locs B.cells B.slots ∧ Post ⟨T.setVm vm₁, locs, cells, slots⟩ argsL.toArray v B ∧
      ∀ target, Steps p.tables e below (B.U.setTop { g with pc := g.pc + 3, stack := v.toList ++ rest }) target → Steps p.tables e below (T.setTop g) target) ∨
    (∃ (q : Addr) (vm₁ : Vm) (B : Pt), s.WarmedH vm₁ ∧ Stand p l e R s m args below meth c B.U B.locs B.cells B.slots ∧ PostX ⟨T.setVm vm₁, locs, cells, slots⟩ argsL.toArray q B ∧
      Steps p.tables e below (T.setTop g) ((B.U.setTop { g with stack := rest }).pushFrame (.throwing q))) := by
  obtain ⟨mk, hnamed⟩ := Cond.code_named hcode
  obtain ⟨methM, cM, hmethM, -, -, -, -, -, -, hsigM⟩ := Cond.code_spec hnamed hcode
  have hstatic : methM.isStatic = true := Cond.static_spec hnamed hmethM hstat
  obtain ⟨kP, hkP, -⟩ := className_of_methodNamed hnamed
  have hinitP : kP.init = .initialized := Cond.initialized_spec (findClass_of_methodNamed hnamed) hkP hinit
  obtain ⟨vm₁, X₁, hstep₁⟩ := X.invokestatic hexec hown hlink hnamed hmethM hstatic hkP hinitP hy (g := g) hg (argsL := argsL) (rest := rest) (hlen _ hsigM) hstack hdg
  rcases hK m meth c ⟨T.setVm vm₁, locs, cells, slots⟩ { g with stack := rest } (.invokestatic index) mk argsL.toArray X₁ hg hsize hdg hW (X₁.named hnamed) (hpre vm₁ X₁.warmed) with ⟨v, B, X', hpost, hsteps⟩ | ⟨q, B, X', hpost, hsteps⟩
  · exact Or.inl ⟨v, vm₁, B, X₁.warmed, X', hpost, fun target h => hstep₁ _ fun acts => by rw [doInvoke_state]; exact hsteps.trans h⟩
  · exact Or.inr ⟨q, vm₁, B, X₁.warmed, X', hpost, hstep₁ _ fun acts => by rw [doInvoke_state]; exact hsteps⟩
end Calls
theorem vx_cls {s : State} {T : State} {vm₁ : Vm} {E : String} {k : ClassId} (hW : s.WarmedH vm₁) (h : (T.setVm vm₁).vm.findClass E = some k) : s.vm.findClass E = some k := by
  have h1 : vm₁.findClass E = some k := h
  rw [hW.alike.findClass] at h1
  exact h1
/-- the method's frame g, with q thrown over it -/
def vx_W (p : Program) (l : Launch) (e : Env) (R : Room) (s : State) (m : MethodId) (args : Array Value) (below : List Frame) (meth : Method) (c : Code) (H : Heap) (locs : List Loc) (cells slots : Nat) (Q : State → Prop) (g : JFrame) (q : Addr) : Prop :=
  ∀ T : State, T.heap = H → Stand p l e R s m args below meth c T locs cells slots → ∃ t, Steps p.tables e below ((T.setTop g).pushFrame (.throwing q)) t ∧ Q t
def vx_Run (p : Program) (l : Launch) (e : Env) (R : Room) (s : State) (m : MethodId) (args : Array Value) (below : List Frame) (meth : Method) (c : Code) (H : Heap) (locs : List Loc) (cells slots mc ms : Nat) (g : JFrame) (rest : List Value) (Qa : State → Outcome → State → Prop) (XC : String → State → State → Prop) (free : Addr → Prop) : Prop :=
  ∀ T : State, T.heap = H → Stand p l e R s m args below meth c T locs cells slots →
    (∃ (v : Option Value) (st₀ t T' : State) (L : List Loc), st₀.heap = H ∧ Stand p l e R s m args below meth c T' (locs ++ L) (cells + mc) (slots + ms) ∧ (∀ q ∈ L, free q.base) ∧ T'.heap = t.heap ∧ T'.vm = t.vm ∧ Qa st₀ (.returned v) t ∧
      Goes p e below T g T' { g with pc := g.pc + 3, stack := v.toList ++ rest }) ∨
    (∃ (q : Addr) (st₀ t T' : State) (L : List Loc) (E : String) (ce : Cell), st₀.heap = H ∧ Stand p l e R s m args below meth c T' (locs ++ L) (cells + mc) (slots + ms) ∧ (∀ z ∈ L, free z.base) ∧ T'.heap = t.heap ∧ T'.vm = t.vm ∧ XC E st₀ t ∧ t.heap[q]? = some ce ∧ ce.vm = .none ∧ s.vm.findClass E = some ce.cls ∧
      Steps p.tables e below (T.setTop g) ((T'.setTop { g with stack := rest }).pushFrame (.throwing q)))
def vx_X {S : Type} (px : S → Prop) (B : String → S → State → Prop) (A : Nat → Prop) : String → State → State → Prop := fun E st t => ∃ u : S, px u ∧ B E u t ∧ va_F A st t
section Runs
variable {p : Program} {l : Launch} {e : Env} {R : Room} {s : State} {m : MethodId} {args : Array Value} {below : List Frame} {meth : Method} {c : Code} {H : Heap} {locs : List Loc} {cells slots : Nat}
variable {y : MethodName} {bytes cc : ByteArray} {maxL nL mc ms n index : Nat} {ret : Option FieldType} {ws : List Cond} {rm : Room} {Pc : Array Value → State → Prop} {Qc : Array Value → State → Outcome → State → Prop} {XC : String → State → State → Prop} {free : Addr → Prop} {Ts : List Cond} {own C : String} {b : Addr} {As rest : List Value} {g : JFrame}
theorem vx_callBack (cb : CallB R s args own index y bytes maxL ret ws rm mc ms n) (hM : vx_Met l y ws rm Pc Qc XC mc ms free) (hbl : FrameBlind Pc) : vx_Back l R p e below s args y 3 8 (PreOf R mc ms Pc) (PostOf Qc mc ms free) (vx_Post XC mc ms free) := by
  obtain ⟨hrc, hrs, hfr, hlo, hws, hcw, -, hini, -⟩ := cb
  exact vx_back (bytes := bytes) (maxL := maxL) (ret := ret) hM hbl hrc hrs hfr hlo hws hcw (fun a' U hW => word_at hW (Or.inl (by first | rfl | simp [Cond.onTables, Cond.keeps, Cond.steady])) hini)
theorem vx_runV (S : CallFix p m c cc nL s args Ts own) (hM : vx_Met l y ws rm Pc Qc XC mc ms free) (cw : CallW R s args own C index y bytes maxL ret ws rm mc ms n) (hp : PreV s H C b Pc As)
    (hg : g.method = m) (hn : As.length = n) (hsize : g.locals.size = nL) (hstack : g.stack = As.reverse ++ .ref b :: rest) (hW : 2 * g.monitorRoom + (rest.map fun v => v.category).sum ≤ 8) (hdg : decode cc g.pc = .ok (.invokevirtual index, 3)) (hf : cells + mc ≤ R.cells ∧ slots + ms ≤ R.slots) :
    vx_Run p l e R s m args below meth c H locs cells slots mc ms g rest (Qc (Value.ref b :: As).toArray) XC free := by
  have hK : vx_Back l R p e below s args y 3 8 (PreOf R mc ms Pc) (PostOf Qc mc ms free) (vx_Post XC mc ms free) := vx_callBack cw.1 hM hp.1
  obtain ⟨⟨-, -, -, -, -, -, hcode, -, hy, hlen, hl⟩, hin, hse⟩ := cw
  obtain ⟨hx, hb, hml, ho, -⟩ := S
  obtain ⟨-, ⟨cellB, hcB, hoB, hclB⟩, hPc⟩ := hp
  intro T hT X
  rcases vx_callV X hx (C := C) (bytes := bytes) (maxL := maxL) (ret := ret) ho hl hin hse hcode hy hK (by rw [hT]; exact hcB) hoB hclB hg (hsize.trans hml.symm) (argsL := As) (rest := rest) (fun sig h => hn.trans (hlen sig h)) hstack hW (by rw [hb]; exact hdg)
    (fun vm₁ hW₁ => ⟨hf.1, hf.2, hPc (T.setVm vm₁) hT hW₁⟩) with ⟨v, vm₁, ⟨U', l2, c2, s2⟩, hW₁, X', ⟨g', mk, t, L, e1, e2, hq, h1, hL, h2, h3⟩, st⟩ | ⟨q, vm₁, ⟨U', l2, c2, s2⟩, hW₁, X', ⟨g', mk, t, L, E, ce, e1, e2, hq, hce, hcv, hcl, h1, hL, h2, h3⟩, st⟩
  · dsimp only [Pt.U, Pt.locs, Pt.cells, Pt.slots] at X' e1 e2 h1 h2 h3 st
    subst h1; subst h2; subst h3
    exact Or.inl ⟨v, (T.setVm vm₁).calling g' mk (Value.ref b :: As).toArray, t, U', L, hT, X', hL, e1, e2, hq, st⟩
  · dsimp only [Pt.U, Pt.locs, Pt.cells, Pt.slots] at X' e1 e2 h1 h2 h3 st hcl
    subst h1; subst h2; subst h3
    exact Or.inr ⟨q, (T.setVm vm₁).calling g' mk (Value.ref b :: As).toArray, t, U', L, E, ce, hT, X', hL, e1, e2, hq, hce, hcv, vx_cls hW₁ hcl, st⟩
theorem vx_runS (S : CallFix p m c cc nL s args Ts own) (hM : vx_Met l y ws rm Pc Qc XC mc ms free) (cw : CallB R s args own index y bytes maxL ret ws rm mc ms n ∧ (Cond.static y).before args s = true) (hp : PreS s H Pc As)
    (hg : g.method = m) (hn : As.length = n) (hsize : g.locals.size = nL) (hstack : g.stack = As.reverse ++ rest) (hW : 2 * g.monitorRoom + (rest.map fun v => v.category).sum ≤ 8) (hdg : decode cc g.pc = .ok (.invokestatic index, 3)) (hf : cells + mc ≤ R.cells ∧ slots + ms ≤ R.slots) :
    vx_Run p l e R s m args below meth c H locs cells slots mc ms g rest (Qc As.toArray) XC free := by
  have hK : vx_Back l R p e below s args y 3 8 (PreOf R mc ms Pc) (PostOf Qc mc ms free) (vx_Post XC mc ms free) := vx_callBack cw.1 hM hp.1
  obtain ⟨⟨-, -, -, -, -, -, hcode, hini, hy, hlen, hl⟩, hstt⟩ := cw
  obtain ⟨hx, hb, hml, ho, -⟩ := S
  intro T hT X
  rcases vx_callS X hx (bytes := bytes) (maxL := maxL) (ret := ret) ho hl hstt hini hcode hy hK hg (hsize.trans hml.symm) (argsL := As) (rest := rest) (fun sig h => hn.trans (hlen sig h)) hstack hW (by rw [hb]; exact hdg)
    (fun vm₁ hW₁ => ⟨hf.1, hf.2, hp.2 (T.setVm vm₁) hT hW₁⟩) with ⟨v, vm₁, ⟨U', l2, c2, s2⟩, hW₁, X', ⟨g', mk, t, L, e1, e2, hq, h1, hL, h2, h3⟩, st⟩ | ⟨q, vm₁, ⟨U', l2, c2, s2⟩, hW₁, X', ⟨g', mk, t, L, E, ce, e1, e2, hq, hce, hcv, hcl, h1, hL, h2, h3⟩, st⟩
  · dsimp only [Pt.U, Pt.locs, Pt.cells, Pt.slots] at X' e1 e2 h1 h2 h3 st
    subst h1; subst h2; subst h3
    exact Or.inl ⟨v, (T.setVm vm₁).calling g' mk As.toArray, t, U', L, hT, X', hL, e1, e2, hq, st⟩
  · dsimp only [Pt.U, Pt.locs, Pt.cells, Pt.slots] at X' e1 e2 h1 h2 h3 st hcl
    subst h1; subst h2; subst h3
    exact Or.inr ⟨q, (T.setVm vm₁).calling g' mk As.toArray, t, U', L, E, ce, hT, X', hL, e1, e2, hq, hce, hcv, vx_cls hW₁ hcl, st⟩
end Runs
section Rows
variable {p : Program} {l : Launch} {e : Env} {R : Room} {s : State} {m : MethodId} {args : Array Value} {below : List Frame} {meth : Method} {c : Code} {H : Heap} {locs : List Loc} {cells slots : Nat} {Q : State → Prop}
variable {mc ms : Nat} {free : Addr → Prop} {A0 A1 : Nat → Prop} {H0 : Heap} {a : Array Value} {pc : Nat} {ls : Array Slot} {st0 rest : List Value}
theorem vx_keep {st₀ t T' : State} {L : List Loc} (h0 : st₀.heap = H) (e1 : T'.heap = t.heap) (hS : va_S A0 H0 H locs) (hA : ∀ q, q < H.size → A1 q → A0 q) (hf : ∀ q, free q → A0 q) (hL : ∀ q ∈ L, free q.base) (hF : va_F A1 st₀ t) :
    H.size ≤ T'.heap.size ∧ (∀ q : Nat, q < H.size → ¬ A1 q → T'.heap[q]? = H[q]?) ∧ va_S A0 H0 T'.heap (locs ++ L) := by
  obtain ⟨hz, hk⟩ := hF
  rw [h0] at hz hk
  exact ⟨by rw [e1]; exact hz, fun q h1 h2 => by rw [e1]; exact hk q h1 h2,
    ⟨Nat.le_trans hS.1 (by rw [e1]; exact hz), fun q h1 h2 => by rw [e1, hk q (Nat.lt_of_lt_of_le h1 hS.1) (fun z => h2 (hA q (Nat.lt_of_lt_of_le h1 hS.1) z))]; exact hS.2.1 q h1 h2, fun q hq => by
      rcases List.mem_append.mp hq with h | h
      · exact hS.2.2 q h
      · exact hf _ (hL q h)⟩⟩
theorem vx_calli {S SX : Type} {post : Int32 → S → Prop} {px : SX → Prop} {B : S → State → Prop} {BX : String → SX → State → Prop} {AX : Nat → Prop} (hr : vx_Run p l e R s m args below meth c H locs cells slots mc ms (F0 m pc ls st0) rest (va_Qi post B A1 a) (vx_X px BX AX) free) (hS : va_S A0 H0 H locs) (hA : ∀ q, q < H.size → A1 q → A0 q) (hf : ∀ q, free q → A0 q) (hAX : ∀ q, q < H.size → AX q → A0 q)
    (kx : ∀ (E : String) (ce : Cell) (q9 : Addr) (u : SX) (t : State) (H1 : Heap) (locs1 : List Loc), t.heap = H1 → s.vm.Alike t.vm → px u → BX E u t → H.size ≤ H1.size → (∀ q : Nat, q < H.size → ¬ AX q → H1[q]? = H[q]?) → va_S A0 H0 H1 locs1 → H1[q9]? = some ce → ce.vm = .none → s.vm.findClass E = some ce.cls → vx_W p l e R s m args below meth c H1 locs1 (cells + mc) (slots + ms) Q (F0 m pc ls rest) q9)
    (kk : ∀ (r : Int32) (u : S) (t : State) (H1 : Heap) (locs1 : List Loc), t.heap = H1 → s.vm.Alike t.vm → post r u → B u t → H.size ≤ H1.size → (∀ q : Nat, q < H.size → ¬ A1 q → H1[q]? = H[q]?) → va_S A0 H0 H1 locs1 → W p l e R s m args below meth c H1 locs1 (cells + mc) (slots + ms) Q (F0 m (pc + 3) ls (.int r :: rest))) : W p l e R s m args below meth c H locs cells slots Q (F0 m pc ls st0) := by
  intro T hT X
  rcases hr T hT X with ⟨v, st₀, t, T', L, h0, X', hL, e1, e2, ⟨⟨r, u, hv, hp, hb⟩, hF⟩, st⟩ | ⟨q, st₀, t, T', L, E, ce, h0, X', hL, e1, e2, ⟨u, hp, hb, hF⟩, hce, hcv, hcl, st⟩
  · cases hv
    obtain ⟨k1, k2, k3⟩ := vx_keep h0 e1 hS hA hf hL hF
    obtain ⟨t2, a1, b1⟩ := kk r u t T'.heap (locs ++ L) e1.symm (by rw [← e2]; exact X'.warmed.alike) hp hb k1 k2 k3 T' rfl X'
    exact ⟨t2, st t2 a1, b1⟩
  · obtain ⟨k1, k2, k3⟩ := vx_keep h0 e1 hS hAX hf hL hF
    obtain ⟨t2, a1, b1⟩ := kx E ce q u t T'.heap (locs ++ L) e1.symm (by rw [← e2]; exact X'.warmed.alike) hp hb k1 k2 k3 (by rw [e1]; exact hce) hcv hcl T' rfl X'
    exact ⟨t2, st.trans a1, b1⟩
theorem vx_calll {S SX : Type} {post : Int64 → S → Prop} {px : SX → Prop} {B : S → State → Prop} {BX : String → SX → State → Prop} {AX : Nat → Prop} (hr : vx_Run p l e R s m args below meth c H locs cells slots mc ms (F0 m pc ls st0) rest (va_Ql post B A1 a) (vx_X px BX AX) free) (hS : va_S A0 H0 H locs) (hA : ∀ q, q < H.size → A1 q → A0 q) (hf : ∀ q, free q → A0 q) (hAX : ∀ q, q < H.size → AX q → A0 q)
    (kx : ∀ (E : String) (ce : Cell) (q9 : Addr) (u : SX) (t : State) (H1 : Heap) (locs1 : List Loc), t.heap = H1 → s.vm.Alike t.vm → px u → BX E u t → H.size ≤ H1.size → (∀ q : Nat, q < H.size → ¬ AX q → H1[q]? = H[q]?) → va_S A0 H0 H1 locs1 → H1[q9]? = some ce → ce.vm = .none → s.vm.findClass E = some ce.cls → vx_W p l e R s m args below meth c H1 locs1 (cells + mc) (slots + ms) Q (F0 m pc ls rest) q9)
    (kk : ∀ (r : Int64) (u : S) (t : State) (H1 : Heap) (locs1 : List Loc), t.heap = H1 → s.vm.Alike t.vm → post r u → B u t → H.size ≤ H1.size → (∀ q : Nat, q < H.size → ¬ A1 q → H1[q]? = H[q]?) → va_S A0 H0 H1 locs1 → W p l e R s m args below meth c H1 locs1 (cells + mc) (slots + ms) Q (F0 m (pc + 3) ls (.long r :: rest))) : W p l e R s m args below meth c H locs cells slots Q (F0 m pc ls st0) := by
  intro T hT X
  rcases hr T hT X with ⟨v, st₀, t, T', L, h0, X', hL, e1, e2, ⟨⟨r, u, hv, hp, hb⟩, hF⟩, st⟩ | ⟨q, st₀, t, T', L, E, ce, h0, X', hL, e1, e2, ⟨u, hp, hb, hF⟩, hce, hcv, hcl, st⟩
  · cases hv
    obtain ⟨k1, k2, k3⟩ := vx_keep h0 e1 hS hA hf hL hF
    obtain ⟨t2, a1, b1⟩ := kk r u t T'.heap (locs ++ L) e1.symm (by rw [← e2]; exact X'.warmed.alike) hp hb k1 k2 k3 T' rfl X'
    exact ⟨t2, st t2 a1, b1⟩
  · obtain ⟨k1, k2, k3⟩ := vx_keep h0 e1 hS hAX hf hL hF
    obtain ⟨t2, a1, b1⟩ := kx E ce q u t T'.heap (locs ++ L) e1.symm (by rw [← e2]; exact X'.warmed.alike) hp hb k1 k2 k3 (by rw [e1]; exact hce) hcv hcl T' rfl X'
    exact ⟨t2, st.trans a1, b1⟩
theorem vx_callf {S SX : Type} {post : UInt32 → S → Prop} {px : SX → Prop} {B : S → State → Prop} {BX : String → SX → State → Prop} {AX : Nat → Prop} (hr : vx_Run p l e R s m args below meth c H locs cells slots mc ms (F0 m pc ls st0) rest (va_Qf post B A1 a) (vx_X px BX AX) free) (hS : va_S A0 H0 H locs) (hA : ∀ q, q < H.size → A1 q → A0 q) (hf : ∀ q, free q → A0 q) (hAX : ∀ q, q < H.size → AX q → A0 q)
    (kx : ∀ (E : String) (ce : Cell) (q9 : Addr) (u : SX) (t : State) (H1 : Heap) (locs1 : List Loc), t.heap = H1 → s.vm.Alike t.vm → px u → BX E u t → H.size ≤ H1.size → (∀ q : Nat, q < H.size → ¬ AX q → H1[q]? = H[q]?) → va_S A0 H0 H1 locs1 → H1[q9]? = some ce → ce.vm = .none → s.vm.findClass E = some ce.cls → vx_W p l e R s m args below meth c H1 locs1 (cells + mc) (slots + ms) Q (F0 m pc ls rest) q9)
    (kk : ∀ (r : UInt32) (u : S) (t : State) (H1 : Heap) (locs1 : List Loc), t.heap = H1 → s.vm.Alike t.vm → post r u → B u t → H.size ≤ H1.size → (∀ q : Nat, q < H.size → ¬ A1 q → H1[q]? = H[q]?) → va_S A0 H0 H1 locs1 → W p l e R s m args below meth c H1 locs1 (cells + mc) (slots + ms) Q (F0 m (pc + 3) ls (.float r :: rest))) : W p l e R s m args below meth c H locs cells slots Q (F0 m pc ls st0) := by
  intro T hT X
  rcases hr T hT X with ⟨v, st₀, t, T', L, h0, X', hL, e1, e2, ⟨⟨r, u, hv, hp, hb⟩, hF⟩, st⟩ | ⟨q, st₀, t, T', L, E, ce, h0, X', hL, e1, e2, ⟨u, hp, hb, hF⟩, hce, hcv, hcl, st⟩
  · cases hv
    obtain ⟨k1, k2, k3⟩ := vx_keep h0 e1 hS hA hf hL hF
    obtain ⟨t2, a1, b1⟩ := kk r u t T'.heap (locs ++ L) e1.symm (by rw [← e2]; exact X'.warmed.alike) hp hb k1 k2 k3 T' rfl X'
    exact ⟨t2, st t2 a1, b1⟩
  · obtain ⟨k1, k2, k3⟩ := vx_keep h0 e1 hS hAX hf hL hF
    obtain ⟨t2, a1, b1⟩ := kx E ce q u t T'.heap (locs ++ L) e1.symm (by rw [← e2]; exact X'.warmed.alike) hp hb k1 k2 k3 (by rw [e1]; exact hce) hcv hcl T' rfl X'
    exact ⟨t2, st.trans a1, b1⟩
theorem vx_calld {S SX : Type} {post : UInt64 → S → Prop} {px : SX → Prop} {B : S → State → Prop} {BX : String → SX → State → Prop} {AX : Nat → Prop} (hr : vx_Run p l e R s m args below meth c H locs cells slots mc ms (F0 m pc ls st0) rest (va_Qd post B A1 a) (vx_X px BX AX) free) (hS : va_S A0 H0 H locs) (hA : ∀ q, q < H.size → A1 q → A0 q) (hf : ∀ q, free q → A0 q) (hAX : ∀ q, q < H.size → AX q → A0 q)
    (kx : ∀ (E : String) (ce : Cell) (q9 : Addr) (u : SX) (t : State) (H1 : Heap) (locs1 : List Loc), t.heap = H1 → s.vm.Alike t.vm → px u → BX E u t → H.size ≤ H1.size → (∀ q : Nat, q < H.size → ¬ AX q → H1[q]? = H[q]?) → va_S A0 H0 H1 locs1 → H1[q9]? = some ce → ce.vm = .none → s.vm.findClass E = some ce.cls → vx_W p l e R s m args below meth c H1 locs1 (cells + mc) (slots + ms) Q (F0 m pc ls rest) q9)
    (kk : ∀ (r : UInt64) (u : S) (t : State) (H1 : Heap) (locs1 : List Loc), t.heap = H1 → s.vm.Alike t.vm → post r u → B u t → H.size ≤ H1.size → (∀ q : Nat, q < H.size → ¬ A1 q → H1[q]? = H[q]?) → va_S A0 H0 H1 locs1 → W p l e R s m args below meth c H1 locs1 (cells + mc) (slots + ms) Q (F0 m (pc + 3) ls (.double r :: rest))) : W p l e R s m args below meth c H locs cells slots Q (F0 m pc ls st0) := by
  intro T hT X
  rcases hr T hT X with ⟨v, st₀, t, T', L, h0, X', hL, e1, e2, ⟨⟨r, u, hv, hp, hb⟩, hF⟩, st⟩ | ⟨q, st₀, t, T', L, E, ce, h0, X', hL, e1, e2, ⟨u, hp, hb, hF⟩, hce, hcv, hcl, st⟩
  · cases hv
    obtain ⟨k1, k2, k3⟩ := vx_keep h0 e1 hS hA hf hL hF
    obtain ⟨t2, a1, b1⟩ := kk r u t T'.heap (locs ++ L) e1.symm (by rw [← e2]; exact X'.warmed.alike) hp hb k1 k2 k3 T' rfl X'
    exact ⟨t2, st t2 a1, b1⟩
  · obtain ⟨k1, k2, k3⟩ := vx_keep h0 e1 hS hAX hf hL hF
    obtain ⟨t2, a1, b1⟩ := kx E ce q u t T'.heap (locs ++ L) e1.symm (by rw [← e2]; exact X'.warmed.alike) hp hb k1 k2 k3 (by rw [e1]; exact hce) hcv hcl T' rfl X'
    exact ⟨t2, st.trans a1, b1⟩
theorem vx_callv {S SX : Type} {post : S → Prop} {px : SX → Prop} {B : S → State → Prop} {BX : String → SX → State → Prop} {AX : Nat → Prop} (hr : vx_Run p l e R s m args below meth c H locs cells slots mc ms (F0 m pc ls st0) rest (va_Qv post B A1 a) (vx_X px BX AX) free) (hS : va_S A0 H0 H locs) (hA : ∀ q, q < H.size → A1 q → A0 q) (hf : ∀ q, free q → A0 q) (hAX : ∀ q, q < H.size → AX q → A0 q)
    (kx : ∀ (E : String) (ce : Cell) (q9 : Addr) (u : SX) (t : State) (H1 : Heap) (locs1 : List Loc), t.heap = H1 → s.vm.Alike t.vm → px u → BX E u t → H.size ≤ H1.size → (∀ q : Nat, q < H.size → ¬ AX q → H1[q]? = H[q]?) → va_S A0 H0 H1 locs1 → H1[q9]? = some ce → ce.vm = .none → s.vm.findClass E = some ce.cls → vx_W p l e R s m args below meth c H1 locs1 (cells + mc) (slots + ms) Q (F0 m pc ls rest) q9)
    (kk : ∀ (u : S) (t : State) (H1 : Heap) (locs1 : List Loc), t.heap = H1 → s.vm.Alike t.vm → post u → B u t → H.size ≤ H1.size → (∀ q : Nat, q < H.size → ¬ A1 q → H1[q]? = H[q]?) → va_S A0 H0 H1 locs1 → W p l e R s m args below meth c H1 locs1 (cells + mc) (slots + ms) Q (F0 m (pc + 3) ls (rest))) : W p l e R s m args below meth c H locs cells slots Q (F0 m pc ls st0) := by
  intro T hT X
  rcases hr T hT X with ⟨v, st₀, t, T', L, h0, X', hL, e1, e2, ⟨⟨u, hv, hp, hb⟩, hF⟩, st⟩ | ⟨q, st₀, t, T', L, E, ce, h0, X', hL, e1, e2, ⟨u, hp, hb, hF⟩, hce, hcv, hcl, st⟩
  · cases hv
    obtain ⟨k1, k2, k3⟩ := vx_keep h0 e1 hS hA hf hL hF
    obtain ⟨t2, a1, b1⟩ := kk u t T'.heap (locs ++ L) e1.symm (by rw [← e2]; exact X'.warmed.alike) hp hb k1 k2 k3 T' rfl X'
    exact ⟨t2, st t2 a1, b1⟩
  · obtain ⟨k1, k2, k3⟩ := vx_keep h0 e1 hS hAX hf hL hF
    obtain ⟨t2, a1, b1⟩ := kx E ce q u t T'.heap (locs ++ L) e1.symm (by rw [← e2]; exact X'.warmed.alike) hp hb k1 k2 k3 (by rw [e1]; exact hce) hcv hcl T' rfl X'
    exact ⟨t2, st.trans a1, b1⟩
/-- caught by the row x of this method's table; the rows ahead don't take it -/
theorem vx_catch {own name : String} {E : String} {ce : Cell} {q : Addr} (hown : s.vm.findClass own = some m.cls) (pre : List ExceptionTableEntry) (x : ExceptionTableEntry) (suf : List ExceptionTableEntry) (hsplit : c.exceptionTable.toList = pre ++ x :: suf)
    (hpass : ∀ z ∈ pre, covers z pc = false ∨ (z.catchType ≠ 0 ∧ ∃ nm : String, (Cond.classLink own z.catchType nm).before args s = true ∧ va_Nc E nm s)) (hx : covers x pc = true) (h0 : x.catchType ≠ 0)
    (hlink : (Cond.classLink own x.catchType name).before args s = true) (hcast : (Cond.castable E name).before args s = true) (hcell : H[q]? = some ce) (hv : ce.vm = .none) (hcl : s.vm.findClass E = some ce.cls)
    (kk : W p l e R s m args below meth c H locs cells slots Q (F0 m x.handlerPc ls [.ref q])) : vx_W p l e R s m args below meth c H locs cells slots Q (F0 m pc ls rest) q := by
  intro T hT X
  have hpl : e.platform.magicAccessors = ({} : Platform).magicAccessors := by rw [X.admits.platform]
  obtain ⟨c3, c4, hc3, hc4, hasg⟩ := Cond.castable_spec hcast
  cases Option.some.inj (hc3.symm.trans hcl)
  obtain ⟨c5, hc5, hcl5⟩ := Cond.classLink_spec hown hlink e.platform hpl
  cases Option.some.inj (hc4.symm.trans hc5)
  obtain ⟨vm', X', st⟩ := X.thenCaughtThrough q (g := F0 m pc ls rest) rfl (Steps.refl _) (by rw [hT]; exact hcell) (by rw [hv]; rfl) (by obtain ⟨k9, h9, -⟩ := Vm.findClass_spec hcl; exact ⟨k9, h9⟩) pre x suf hsplit
    (fun z hz => by
      rcases hpass z hz with h | ⟨hz0, nm, hl1, hn1⟩
      · exact Or.inl h
      · obtain ⟨c6, hc6, hcl6⟩ := Cond.classLink_spec hown hl1 e.platform hpl
        obtain ⟨a8, b8, h1, h2, h3⟩ := hn1
        cases Option.some.inj (h1.symm.trans hcl)
        cases Option.some.inj (h2.symm.trans hc6)
        exact Or.inr ⟨hz0, _, hcl6, h3⟩) hx (Or.inr ⟨h0, c4, hcl5, hasg⟩)
  obtain ⟨t, a1, b1⟩ := kk (T.setVm vm') hT X'
  exact ⟨t, st.trans a1, b1⟩
end Rows
section Ends
variable {p : Program} {l : Launch} {e : Env} {R : Room} {s : State} {m : MethodId} {args : Array Value} {below : List Frame} {meth : Method} {c : Code} {H : Heap} {locs : List Loc} {cells slots : Nat} {Q : State → Prop}
variable {mc ms : Nat} {free : Addr → Prop} {A0 A1 : Nat → Prop} {H0 : Heap} {a : Array Value} {ls : Array Slot} {st0 rest : List Value}
variable {Qc : Array Value → State → Outcome → State → Prop} {XC : String → State → State → Prop}
/-- what a body that may throw owes at its end -/
def vx_MQ (below : List Frame) (Qc : Array Value → State → Outcome → State → Prop) (XC : String → State → State → Prop) (a : Array Value) (s : State) (mc ms : Nat) (free : Addr → Prop) : State → Prop := fun t =>
  ∃ o, t.status = .running ∧ Ended t below o ∧ vx_Q Qc XC mc ms free a s o t
theorem vx_ret {g : JFrame} {mc ms : Nat} (k : W p l e R s m args below meth c H locs cells slots (MQ below Qc args s mc ms free) g) : W p l e R s m args below meth c H locs cells slots (vx_MQ below Qc XC args s mc ms free) g := by
  intro T hT X
  obtain ⟨t, a1, o, b1, b2, b3, b4⟩ := k T hT X
  exact ⟨t, a1, o, b1, b2, Or.inl ⟨b3, b4⟩⟩
/-- not caught here: it goes on to the caller -/
theorem vx_widen {g : JFrame} {q : Addr} {k n : Nat} (h1 : cells ≤ k) (h2 : slots ≤ n) (kk : vx_W p l e R s m args below meth c H locs k n Q g q) : vx_W p l e R s m args below meth c H locs cells slots Q g q := fun T hT X => kk T hT (stand_widen X h1 h2)
theorem vx_out {pc : Nat} {E : String} {ce : Cell} {q : Addr} {mc ms : Nat} (hout : ∀ x ∈ c.exceptionTable.toList, covers x pc = false) (hlocks : meth.locks = false) (hcell : H[q]? = some ce) (hv : ce.vm = .none) (hcl : s.vm.findClass E = some ce.cls)
    (hx : ∀ t : State, t.heap = H → s.vm.Alike t.vm → XC E s t) (hf : ∀ z ∈ locs, free z.base) (hc : cells ≤ mc) (hs : slots ≤ ms) :
    vx_W p l e R s m args below meth c H locs cells slots (vx_MQ below Qc XC args s mc ms free) (F0 m pc ls rest) q := by
  intro T hT X
  obtain ⟨st1, hrun, hend, hW, hsm⟩ := X.leaveThrown q (g := F0 m pc ls rest) rfl rfl rfl hout hlocks
  have hcell9 : (T.setFrames (.throwing q :: below)).heap[q]? = some ce := by
    show T.heap[q]? = some ce
    rw [hT]; exact hcell
  exact ⟨_, st1, .threw q, hrun, hend, Or.inr ⟨q, rfl, E, ce, locs, hx _ hT hW.alike, hcell9, hv, hcl, hW, hsm.mono hc hs, hf⟩⟩
theorem vx_frame {U : State} {k n : Nat} (h : s.sameButNew ({ U with vm := s.vm } : State) locs k n) : s.heap.size ≤ U.heap.size ∧ ∀ q : Nat, q < s.heap.size → (∀ z ∈ locs, z.base ≠ q) → U.heap[q]? = s.heap[q]? := by
  obtain ⟨-, h2, -, -, -, h6⟩ := h
  refine ⟨h2, fun q hq hz => ?_⟩
  obtain ⟨c9, e1, e2, e3, e4⟩ := h6 q _ (Array.getElem?_eq_getElem hq)
  have hs : c9.slots = (s.heap[q]).slots := Array.ext_getElem? fun i => e4 i fun hm => hz _ hm rfl
  have h9 : c9 = s.heap[q] := by
    rw [hs] at e2
    exact e2
  have e5 : U.heap[q]? = some c9 := e1
  rw [e5, h9, Array.getElem?_eq_getElem hq]
/-- the words of a throw but the four that speak of the heap -/
def vx_no (w : Cond) : Bool := decide (w ≠ .isRef (.static Bundle.tN "UNASSIGNED_STACK" Bundle.steD)) && decide (w ≠ .isRef (.static Bundle.tN "SUPPRESSED_SENTINEL" Bundle.listD)) && decide (w ≠ .laysStatic Bundle.tN "UNASSIGNED_STACK" Bundle.steD) && decide (w ≠ .laysStatic Bundle.tN "SUPPRESSED_SENTINEL" Bundle.listD)
def vx_at0 (own : String) (ic : Nat) (X : String) (names : List String) : List Cond := (Bundle.ownAtoms0 own ic X names).filter vx_no
def vx_atS (own : String) (ic : Nat) (X : String) (names : List String) : List Cond := (Bundle.ownAtoms own ic X names).filter vx_no
/-- a word that the tables alone decide, or a good one -/
def vx_ot (w : Cond) : Bool := w.onTables || goodWord w
theorem vx_ot_at {args a' : Array Value} {s U : State} {w : Cond} (hW : s.WarmedH U.vm) (hvm : s.vm = U.vm) (hg : vx_ot w = true) (h : w.before args s = true) : w.before a' U = true := by
  simp only [vx_ot, Bool.or_eq_true] at hg
  rcases hg with hg | hg
  · exact va_tabs hg hvm h
  · exact word_at hW (good_of_word hg) h
/-- a list's words: the good ones out of the method's own list, the others by premises of their own -/
theorem vx_hat {args : Array Value} {s : State} {L B : List Cond} (h1 : ∀ w ∈ L.filter goodWord, w.before args s = true) (h2 : ∀ w ∈ L.filter (fun w => !goodWord w), w ∈ B) (h3 : ∀ w ∈ B, w.before args s = true) : ∀ w ∈ L, w.before args s = true := by
  intro w hw
  by_cases g : goodWord w = true
  · exact h1 w (List.mem_filter.mpr ⟨hw, g⟩)
  · refine h3 w (h2 w (List.mem_filter.mpr ⟨hw, ?_⟩))
    show (!goodWord w) = true
    cases hgw : goodWord w
    · rfl
    · exact absurd hgw g
theorem vx_c {args : Array Value} {s : State} {w : Cond} {B : List Cond} (h : w.before args s = true) (t : ∀ w ∈ B, w.before args s = true) : ∀ w' ∈ w :: B, w'.before args s = true := fun w' h' => (List.mem_cons.mp h').elim (fun e => by rw [e]; exact h) (t w')
theorem vx_n {args : Array Value} {s : State} : ∀ w ∈ ([] : List Cond), w.before args s = true := fun _ h => nomatch h
theorem vx_own {args : Array Value} {s : State} {L : List Cond} (h1 : ∀ w ∈ L.filter vx_no, w.before args s = true)
    (hU : (Cond.isRef (.static Bundle.tN "UNASSIGNED_STACK" Bundle.steD)).before args s = true) (hN : (Cond.isRef (.static Bundle.tN "SUPPRESSED_SENTINEL" Bundle.listD)).before args s = true)
    (lU : (Cond.laysStatic Bundle.tN "UNASSIGNED_STACK" Bundle.steD).before args s = true) (lN : (Cond.laysStatic Bundle.tN "SUPPRESSED_SENTINEL" Bundle.listD).before args s = true) : ∀ w ∈ L, w.before args s = true := by
  intro w hw
  by_cases e1 : w = .isRef (.static Bundle.tN "UNASSIGNED_STACK" Bundle.steD)
  · rw [e1]; exact hU
  · by_cases e2 : w = .isRef (.static Bundle.tN "SUPPRESSED_SENTINEL" Bundle.listD)
    · rw [e2]; exact hN
    · by_cases e3 : w = .laysStatic Bundle.tN "UNASSIGNED_STACK" Bundle.steD
      · rw [e3]; exact lU
      · by_cases e4 : w = .laysStatic Bundle.tN "SUPPRESSED_SENTINEL" Bundle.listD
        · rw [e4]; exact lN
        · exact h1 w (List.mem_filter.mpr ⟨hw, by unfold vx_no; rw [decide_eq_true e1, decide_eq_true e2, decide_eq_true e3, decide_eq_true e4]; rfl⟩)
/-- where a static field lies, its class's statics cell in H -/
def vx_L (C n d : String) (A : Nat → Prop) (U : State) (H : Heap) : Prop := ∃ (c : ClassId) (k : Class) (i : Nat) (f : Field) (a : Nat) (cell : Cell), U.vm.findClass C = some c ∧ U.fieldFound? C n d = some (c, k, i, f) ∧ f.isStatic = true ∧ k.statics = some a ∧ H[a]? = some cell ∧ cell.vm.isStatics = true ∧ cell.cls = c ∧ f.slot < cell.slots.size ∧ k.staticTypes[f.slot]? = some f.type ∧ ¬ A a
theorem vx_L.moved {C n d : String} {A : Nat → Prop} {u U : State} {H : Heap} (hvm : u.vm.Alike U.vm) (h : vx_L C n d A u H) : vx_L C n d A U H := by
  obtain ⟨c, k, i, f, a, cell, h1, h2, h3, h4, h5, h6, h7, h8, h9, h10⟩ := h
  obtain ⟨k', hi', he⟩ := State.fieldFound?_setVm hvm h2
  exact ⟨c, k', i, f, a, cell, by rw [hvm.findClass]; exact h1, hi', h3, by rw [he]; exact h4, h5, h6, h7, h8, by rw [he]; exact h9, h10⟩
theorem vx_L.kept {C n d : String} {A : Nat → Prop} {U : State} {H H1 : Heap} (h : vx_L C n d A U H) (hq : ∀ a : Nat, a < H.size → ¬ A a → H1[a]? = H[a]?) : vx_L C n d A U H1 := by
  obtain ⟨c, k, i, f, a, cell, h1, h2, h3, h4, h5, h6, h7, h8, h9, h10⟩ := h
  exact ⟨c, k, i, f, a, cell, h1, h2, h3, h4, by rw [hq a (Array.getElem?_eq_some_iff.mp h5).1 h10]; exact h5, h6, h7, h8, h9, h10⟩
theorem vx_L.narrow {C n d : String} {A B : Nat → Prop} {U : State} {H : Heap} (h : vx_L C n d A U H) (hAB : ∀ q, B q → A q) : vx_L C n d B U H := by
  obtain ⟨c, k, i, f, a, cell, h1, h2, h3, h4, h5, h6, h7, h8, h9, h10⟩ := h
  exact ⟨c, k, i, f, a, cell, h1, h2, h3, h4, h5, h6, h7, h8, h9, fun z => h10 (hAB _ z)⟩
theorem vx_L.word {C n d : String} {A : Nat → Prop} {s : State} {args : Array Value} (h : vx_L C n d A s s.heap) : (Cond.laysStatic C n d).before args s = true := by
  obtain ⟨c, k, i, f, a, cell, h1, h2, h3, h4, h5, h6, h7, h8, h9, -⟩ := h
  show (Cond.laysStatic C n d).holds args s none s [] = true
  exact Cond.laysStatic_of h1 h2 h3 h4 h5 h6 h7 h8 h9
/-- .. and what it holds: null or some reference -/
def vx_Zq (C n d : String) (A : Nat → Prop) (U : State) (H : Heap) : Prop := va_Zq C n d A U H ∧ vx_L C n d A U H
theorem vx_Zq.moved {C n d : String} {A : Nat → Prop} {u U : State} {H : Heap} (hvm : u.vm.Alike U.vm) (h : vx_Zq C n d A u H) : vx_Zq C n d A U H := ⟨va_Zq.moved hvm h.1, vx_L.moved hvm h.2⟩
theorem vx_Zq.kept {C n d : String} {A : Nat → Prop} {U : State} {H H1 : Heap} (h : vx_Zq C n d A U H) (hq : ∀ a : Nat, a < H.size → ¬ A a → H1[a]? = H[a]?) : vx_Zq C n d A U H1 := ⟨va_Zq.kept h.1 hq, vx_L.kept h.2 hq⟩
theorem vx_Zq.narrow {C n d : String} {A B : Nat → Prop} {U : State} {H : Heap} (h : vx_Zq C n d A U H) (hAB : ∀ q, B q → A q) : vx_Zq C n d B U H := ⟨va_Zq.narrow h.1 hAB, vx_L.narrow h.2 hAB⟩
theorem vx_Zqof {args : Array Value} {s : State} {C n d : String} {A : Nat → Prop} (hl : (Cond.laysStatic C n d).before args s = true) (hini : (Cond.initialized C).before args s = true) (h : (Cond.isRef (.static C n d)).before args s = true) (hA : ∀ a : Nat, a < s.heap.size → ¬ A a) : vx_Zq C n d A s s.heap := by
  refine ⟨va_Zqof hl hini h hA, ?_⟩
  obtain ⟨c, k, i, f, a, cell, h1, h2, h3, h4, h5, h6, h7, h8, h9⟩ := Cond.laysStatic_spec hl
  exact ⟨c, k, i, f, a, cell, h1, h2, h3, h4, h5, h6, h7, h8, h9, hA a (Array.getElem?_eq_some_iff.mp h5).1⟩
theorem vx_isRef {C n d : String} {v : Value} {A : Nat → Prop} {s : State} {args : Array Value} (h : va_Z C n d v A s s.heap) (hv : v.isRef = true) : (Cond.isRef (.static C n d)).before args s = true := by
  obtain ⟨cf, kf, fi, f, a, cell, h1, h2, h3, h4, h5, h6, h7, -⟩ := h
  have he : (Term.static C n d).eval args s none [] s = some v := by
    simp [Term.eval, State.fieldNamed?, h1, h2, h4, h5, h6, h7]
  simp only [Cond.before, Cond.holds, Cond.value, he]
  cases v <;> simp_all [Value.isRef]
theorem vx_isRefq {C n d : String} {A : Nat → Prop} {s : State} {args : Array Value} (h : va_Zq C n d A s s.heap) : (Cond.isRef (.static C n d)).before args s = true := by
  rcases h with h | ⟨t, h⟩
  · exact vx_isRef h rfl
  · exact vx_isRef h rfl
/-- the same frame, seen from here: as if the method were called anew in this heap -/
theorem vx_rebase {T : State} (X : Stand p l e R s m args below meth c T locs cells slots) {R' : Room} (hf : R'.frames ≤ R.frames) (hl : R'.locals ≤ R.locals) (hc : cells + R'.cells ≤ R.cells) (hs : slots + R'.slots ≤ R.slots) :
    Stand p l e R' ((T.setVm s.vm).setFrames (.invoking m args :: below)) m args below meth c T [] 0 0 := by
  have htop : (T.setVm s.vm).topJava?.isSome := X.here.top
  have hF : ((T.setVm s.vm).setFrames (.invoking m args :: below)).frames = .invoking m args :: below := State.frames_setFrames _ (State.cur_lt_of_top htop)
  obtain ⟨g₀, hg0⟩ := Option.isSome_iff_exists.mp htop
  obtain ⟨r, hr⟩ := State.topJava?_eq_some.mp hg0
  have hl9 : e.platform.stackLimits (T.setVm s.vm).me = e.platform.stackLimits s.me := X.limits
  have hb9 : (T.setVm s.vm).me.stackBytes = s.me.stackBytes := X.bytes
  refine ⟨X.admits, X.cas, X.clock, hF, ?_, X.hears, X.method, X.code, X.here, X.tail, X.warmed, ?_, ?_, ?_⟩
  · have h := X.room
    have hU : ((T.setVm s.vm).setFrames (.invoking m args :: below)).localsInUse = s.localsInUse := by
      rw [State.localsInUse_invoking hF (meth := meth) (c := c) X.method X.code, State.localsInUse_invoking X.frames X.method X.code]
    simp only [State.hasRoom, Bool.and_eq_true, decide_eq_true_eq] at h ⊢
    obtain ⟨⟨⟨⟨h1, h2, h3, h4, h5, h6⟩, h7⟩, h8⟩, h9⟩ := h
    rw [X.frames, List.length_cons] at h2 h3
    have q1 := X.heapSize
    have q2 := X.used
    simp only [hF, hU, List.length_cons, State.stackLimits_setFrames, State.stackBytes_setFrames, hl9, hb9]
    refine ⟨⟨⟨⟨by omega, by omega, by omega, by omega, by omega, h6⟩, ?_⟩, ?_⟩, X.book⟩
    · show T.heap.size + R'.cells ≤ e.platform.maxCells
      omega
    · show T.slotsUsed + R'.slots ≤ e.platform.maxSlots
      omega
  · rw [State.stackLimits_setFrames]; rfl
  · rw [State.stackBytes_setFrames]; rfl
  · refine ⟨?_, Nat.le_refl _, Nat.le_refl _, ?_, ?_, fun a c9 h9 => ⟨c9, h9, rfl, rfl, fun _ _ => rfl⟩⟩
    · obtain ⟨t, ht, -⟩ := State.frames_cons hr
      show T.setVm s.vm = { ((T.setVm s.vm).setFrames (.invoking m args :: below)).setFrames (T.setVm s.vm).frames with heap := T.heap, slotsUsed := T.slotsUsed }
      rw [State.setFrames_setFrames, State.setFrames_self ht]
      rfl
    · show T.slotsUsed = T.slotsUsed + ((T.heap.toList.drop T.heap.size).map (·.slots.size)).sum
      rw [List.drop_eq_nil_of_le (Nat.le_of_eq Array.length_toList)]
      rfl
    · show ((T.heap.toList.drop T.heap.size).map (·.slots.size)).sum ≤ 0
      rw [List.drop_eq_nil_of_le (Nat.le_of_eq Array.length_toList)]
      exact Nat.le_refl _
/-- 'throw new E()': new; dup; invokespecial; athrow -/
theorem vx_throw0 {cc : ByteArray} {pc : Nat} (hexec : p.tables.exec = Jvm.exec) (hb : c.code = cc) (hl : l.stackTraces = false) {own cls : String} {names : List String} {ik ic mc ms : Nat} {A : Nat → Prop}
    (hown : s.vm.findClass own = some m.cls) (hcls : Bundle.fit cls = true) (hnames : ∀ n ∈ names, Bundle.fit n = true)
    (hk : (Cond.classLink own ik cls).before args s = true) (hini : (Cond.initialized cls).before args s = true) (hat : ∀ w ∈ vx_at0 own ic cls names, w.before args s = true)
    (hgood : ∀ w ∈ Cond.classLink own ik cls :: Cond.initialized cls :: vx_at0 own ic cls names, vx_ot w = true)
    (hU : vx_Zq Bundle.tN "UNASSIGNED_STACK" Bundle.steD A s s.heap) (hN : vx_Zq Bundle.tN "SUPPRESSED_SENTINEL" Bundle.listD A s s.heap) (hS : va_S A s.heap H locs) (hsize : ls.size = c.maxLocals)
    (d0 : decode cc pc = .ok (.new ik, 3)) (d3 : decode cc (pc + 3) = .ok (.dup, 1)) (d4 : decode cc (pc + 4) = .ok (.invokespecial ic, 3)) (d7 : decode cc (pc + 7) = .ok (.athrow, 1))
    (hout : ∀ x ∈ c.exceptionTable.toList, covers x (pc + 7) = false)
    (hRframes : names.length + 3 < R.frames) (hRlocals : (rest.map fun v => v.category).sum + (13 * (names.length + 1) + 42) ≤ R.locals) (hRcells : cells + 1 ≤ R.cells) (hRslots : slots + 6 ≤ R.slots) (hlocks : meth.locks = false)
    (hx : ∀ t : State, s.vm.Alike t.vm → H.size ≤ t.heap.size → (∀ q : Nat, q < H.size → t.heap[q]? = H[q]?) → XC cls s t)
    (hf : ∀ z ∈ locs, free z.base) (hc : cells + 1 ≤ mc) (hs : slots + 6 ≤ ms) :
    W p l e R s m args below meth c H locs cells slots (vx_MQ below Qc XC args s mc ms free) (F0 m pc ls rest) := by
  intro T hT X
  have htr : e.platform.stackTraces = false := (show e.platform.stackTraces = l.stackTraces by rw [X.admits.platform]).trans hl
  have Y := vx_rebase X (R' := { frames := R.frames, locals := R.locals, cells := 1, slots := 6 }) (Nat.le_refl _) (Nat.le_refl _) hRcells hRslots
  obtain ⟨s', hA⟩ : ∃ z, z = (T.setVm s.vm).setFrames (.invoking m args :: below) := ⟨_, rfl⟩
  rw [← hA] at Y
  have hvm : s'.vm = s.vm := by rw [hA]; rfl
  have hhp : s'.heap = H := by rw [hA]; exact hT
  have hW0 : s.WarmedH s'.vm := by rw [hvm]; exact State.WarmedH.refl s
  have hat' : ∀ w ∈ vx_at0 own ic cls names, w.before args s' = true := fun w hw => vx_ot_at hW0 hvm.symm (hgood w (List.mem_cons_of_mem _ (List.mem_cons_of_mem _ hw))) (hat w hw)
  have hk' : (Cond.classLink own ik cls).before args s' = true := vx_ot_at hW0 hvm.symm (hgood _ List.mem_cons_self) hk
  have hini' : (Cond.initialized cls).before args s' = true := vx_ot_at hW0 hvm.symm (hgood _ (List.mem_cons_of_mem _ List.mem_cons_self)) hini
  have hU' : vx_Zq Bundle.tN "UNASSIGNED_STACK" Bundle.steD A s' s'.heap := by rw [hhp]; exact vx_Zq.moved hW0.alike (hU.kept hS.2.1)
  have hN' : vx_Zq Bundle.tN "SUPPRESSED_SENTINEL" Bundle.listD A s' s'.heap := by rw [hhp]; exact vx_Zq.moved hW0.alike (hN.kept hS.2.1)
  have h : ∀ w ∈ Bundle.ownAtoms0 own ic cls names, w.before args s' = true := vx_own hat' (vx_isRefq hU'.1) (vx_isRefq hN'.1) hU'.2.word hN'.2.word
  have hown' : s'.vm.findClass own = some m.cls := by rw [hvm]; exact hown
  have hins : (Cond.instantiable cls 6).before args s' = true := h _ (by simp [Bundle.ownAtoms0])
  obtain ⟨vm₁, cX, kX, hfX, hkX, -, -, X₁, st1⟩ := Y.newCold hexec (own := own) (C := cls) (index := ik) (n := 6) hown' hk' hins hini'
    (g := F0 m pc ls rest) rfl (by rw [hb]; exact d0) (Nat.le_refl _) (Nat.le_refl _)
  generalize hT1 : (T.setVm vm₁).pushCell { cls := cX, slots := kX.instanceTypes.map defaultValue, vm := .none } = T1 at X₁ st1
  have hcat : (Value.ref T.heap.size).category = 1 := rfl
  have hcellA : T1.heap[T.heap.size]? = some (freshCell cX kX) := by rw [← hT1]; exact State.heap_pushCell_size _ _
  have d3' : decode c.code (pc + 3) = .ok (.dup, 1) := by rw [hb]; exact d3
  obtain ⟨U, hsteps, hrun, hend, hW, hsame, ce, hce, hO⟩ := X₁.ctorThrow0 hexec htr (own := own) (cls := cls) (names := names) (ic := ic) hown' hcls hnames h (fun x hx => nomatch hx) hfX hkX hcellA (by rw [hhp, hT]; exact Nat.le_refl _)
    (g := { method := m, pc := pc + 4, locals := ls, stack := .ref T.heap.size :: .ref T.heap.size :: rest, locked := none }) rfl hsize rfl rfl (rest := rest) rfl
    (by rw [hb]; exact d4) (by rw [hb]; exact d7) hout hRframes (by simp only [List.map_cons, List.sum_cons, hcat]; omega) hlocks
  obtain ⟨f1, f2⟩ := vx_frame hsame
  rw [hhp] at f1 f2
  have hWs : s.WarmedH U.vm := State.WarmedH.trans hW0 hW
  have hcl : s.vm.findClass cls = some ce.cls := by
    have h9 := hO.cls
    rw [hvm] at h9
    exact h9
  have hall : s.sameButNew ({ U with vm := s.vm } : State) locs mc ms := by
    subst hA
    obtain ⟨e1, e2⟩ := hsame
    rw [State.setFrames_setFrames] at e1
    have h2 : (T.setVm s.vm).sameButNew ({ U with vm := s.vm } : State) [] (0 + 1) (0 + 6) := ⟨e1, e2⟩
    have h3 := X.same.trans h2
    rw [List.append_nil] at h3
    exact h3.mono hc hs
  refine ⟨U, ?_, .threw T.heap.size, hrun, hend, Or.inr ⟨T.heap.size, rfl, cls, ce, locs, hx U hWs.alike f1 (fun q hq => f2 q hq (fun z hz => nomatch hz)), hce, hO.vm, hcl, hWs, hall, hf⟩⟩
  refine st1 _ ?_
  show Steps p.tables e below (T1.setTop { method := m, pc := pc + 3, locals := ls, stack := .ref T.heap.size :: rest, locked := none }) _
  jvm_step X₁.here [X₁.here.top, hexec, d3', Value.category]
  exact hsteps
/-- 'throw new E("text")': new; dup; ldc; invokespecial; athrow -/
theorem vx_throwS {cc : ByteArray} {pc : Nat} (hexec : p.tables.exec = Jvm.exec) (hb : c.code = cc) (hl : l.stackTraces = false) {own cls text : String} {names : List String} {ik is ic mc ms sa : Nat} {A : Nat → Prop}
    (hown : s.vm.findClass own = some m.cls) (hcls : Bundle.fit cls = true) (hnames : ∀ n ∈ names, Bundle.fit n = true)
    (hk : (Cond.classLink own ik cls).before args s = true) (hini : (Cond.initialized cls).before args s = true) (hstr : vk_R own is text sa s) (hat : ∀ w ∈ vx_atS own ic cls names, w.before args s = true)
    (hgood : ∀ w ∈ Cond.classLink own ik cls :: Cond.initialized cls :: vx_atS own ic cls names, vx_ot w = true)
    (hU : vx_Zq Bundle.tN "UNASSIGNED_STACK" Bundle.steD A s s.heap) (hN : vx_Zq Bundle.tN "SUPPRESSED_SENTINEL" Bundle.listD A s s.heap) (hS : va_S A s.heap H locs) (hsize : ls.size = c.maxLocals)
    (d0 : decode cc pc = .ok (.new ik, 3)) (d3 : decode cc (pc + 3) = .ok (.dup, 1)) (d4 : decode cc (pc + 4) = .ok (.ldc is, 2)) (d6 : decode cc (pc + 6) = .ok (.invokespecial ic, 3)) (d9 : decode cc (pc + 9) = .ok (.athrow, 1))
    (hout : ∀ x ∈ c.exceptionTable.toList, covers x (pc + 9) = false)
    (hRframes : names.length + 3 < R.frames) (hRlocals : (rest.map fun v => v.category).sum + (13 * (names.length + 1) + 43) ≤ R.locals) (hRcells : cells + 1 ≤ R.cells) (hRslots : slots + 6 ≤ R.slots) (hlocks : meth.locks = false)
    (hx : ∀ t : State, s.vm.Alike t.vm → H.size ≤ t.heap.size → (∀ q : Nat, q < H.size → t.heap[q]? = H[q]?) → XC cls s t)
    (hf : ∀ z ∈ locs, free z.base) (hc : cells + 1 ≤ mc) (hs : slots + 6 ≤ ms) :
    W p l e R s m args below meth c H locs cells slots (vx_MQ below Qc XC args s mc ms free) (F0 m pc ls rest) := by
  intro T hT X
  have htr : e.platform.stackTraces = false := (show e.platform.stackTraces = l.stackTraces by rw [X.admits.platform]).trans hl
  have Y := vx_rebase X (R' := { frames := R.frames, locals := R.locals, cells := 1, slots := 6 }) (Nat.le_refl _) (Nat.le_refl _) hRcells hRslots
  obtain ⟨s', hA⟩ : ∃ z, z = (T.setVm s.vm).setFrames (.invoking m args :: below) := ⟨_, rfl⟩
  rw [← hA] at Y
  have hvm : s'.vm = s.vm := by rw [hA]; rfl
  have hhp : s'.heap = H := by rw [hA]; exact hT
  have hW0 : s.WarmedH s'.vm := by rw [hvm]; exact State.WarmedH.refl s
  have hat' : ∀ w ∈ vx_atS own ic cls names, w.before args s' = true := fun w hw => vx_ot_at hW0 hvm.symm (hgood w (List.mem_cons_of_mem _ (List.mem_cons_of_mem _ hw))) (hat w hw)
  have hk' : (Cond.classLink own ik cls).before args s' = true := vx_ot_at hW0 hvm.symm (hgood _ List.mem_cons_self) hk
  have hini' : (Cond.initialized cls).before args s' = true := vx_ot_at hW0 hvm.symm (hgood _ (List.mem_cons_of_mem _ List.mem_cons_self)) hini
  have hU' : vx_Zq Bundle.tN "UNASSIGNED_STACK" Bundle.steD A s' s'.heap := by rw [hhp]; exact vx_Zq.moved hW0.alike (hU.kept hS.2.1)
  have hN' : vx_Zq Bundle.tN "SUPPRESSED_SENTINEL" Bundle.listD A s' s'.heap := by rw [hhp]; exact vx_Zq.moved hW0.alike (hN.kept hS.2.1)
  have h : ∀ w ∈ Bundle.ownAtoms own ic cls names, w.before args s' = true := vx_own hat' (vx_isRefq hU'.1) (vx_isRefq hN'.1) hU'.2.word hN'.2.word
  have hown' : s'.vm.findClass own = some m.cls := by rw [hvm]; exact hown
  have hins : (Cond.instantiable cls 6).before args s' = true := h _ (by simp [Bundle.ownAtoms])
  obtain ⟨vm₁, cX, kX, hfX, hkX, -, -, X₁, st1⟩ := Y.newCold hexec (own := own) (C := cls) (index := ik) (n := 6) hown' hk' hins hini'
    (g := F0 m pc ls rest) rfl (by rw [hb]; exact d0) (Nat.le_refl _) (Nat.le_refl _)
  generalize hT1 : (T.setVm vm₁).pushCell { cls := cX, slots := kX.instanceTypes.map defaultValue, vm := .none } = T1 at X₁ st1
  have hcat : (Value.ref T.heap.size).category = 1 := rfl
  have hcellA : T1.heap[T.heap.size]? = some (freshCell cX kX) := by rw [← hT1]; exact State.heap_pushCell_size _ _
  have d3' : decode c.code (pc + 3) = .ok (.dup, 1) := by rw [hb]; exact d3
  have d4' : decode c.code (pc + 4) = .ok (.ldc is, 2) := by rw [hb]; exact d4
  have hstr' : vk_R own is text sa s' := vk_R.warm hW0 hstr
  obtain ⟨U, hsteps, hrun, hend, hW, hsame, ce, hce, hO⟩ := X₁.ctorThrowS hexec htr (own := own) (cls := cls) (names := names) (ic := ic) hown' hcls hnames h (fun x hx => nomatch hx) hfX hkX hcellA (by rw [hhp, hT]; exact Nat.le_refl _) (msg := .ref sa) rfl
    (g := { method := m, pc := pc + 6, locals := ls, stack := .ref sa :: .ref T.heap.size :: .ref T.heap.size :: rest, locked := none }) rfl hsize rfl rfl (rest := rest) rfl
    (by rw [hb]; exact d6) (by rw [hb]; exact d9) hout hRframes (by simp only [List.map_cons, List.sum_cons, hcat]; omega) hlocks
  obtain ⟨f1, f2⟩ := vx_frame hsame
  rw [hhp] at f1 f2
  have hWs : s.WarmedH U.vm := State.WarmedH.trans hW0 hW
  have hcl : s.vm.findClass cls = some ce.cls := by
    have h9 := hO.cls
    rw [hvm] at h9
    exact h9
  have hall : s.sameButNew ({ U with vm := s.vm } : State) locs mc ms := by
    subst hA
    obtain ⟨e1, e2⟩ := hsame
    rw [State.setFrames_setFrames] at e1
    have h2 : (T.setVm s.vm).sameButNew ({ U with vm := s.vm } : State) [] (0 + 1) (0 + 6) := ⟨e1, e2⟩
    have h3 := X.same.trans h2
    rw [List.append_nil] at h3
    exact h3.mono hc hs
  refine ⟨U, ?_, .threw T.heap.size, hrun, hend, Or.inr ⟨T.heap.size, rfl, cls, ce, locs, hx U hWs.alike f1 (fun q hq => f2 q hq (fun z hz => nomatch hz)), hce, hO.vm, hcl, hWs, hall, hf⟩⟩
  refine st1 _ ?_
  show Steps p.tables e below (T1.setTop { method := m, pc := pc + 3, locals := ls, stack := .ref T.heap.size :: rest, locked := none }) _
  jvm_step X₁.here [X₁.here.top, hexec, d3', Value.category]
  exact X₁.ldcString hexec (own := own) (text := text) (index := is) (a := sa) hown' hstr'.1 hstr'.2
    (g := { method := m, pc := pc + 4, locals := ls, stack := .ref T.heap.size :: .ref T.heap.size :: rest, locked := none }) rfl d4' _ hsteps
/-- 'throw new E("text")', the text by a wide index -/
theorem vx_throwSW {cc : ByteArray} {pc : Nat} (hexec : p.tables.exec = Jvm.exec) (hb : c.code = cc) (hl : l.stackTraces = false) {own cls text : String} {names : List String} {ik is ic mc ms sa : Nat} {A : Nat → Prop}
    (hown : s.vm.findClass own = some m.cls) (hcls : Bundle.fit cls = true) (hnames : ∀ n ∈ names, Bundle.fit n = true)
    (hk : (Cond.classLink own ik cls).before args s = true) (hini : (Cond.initialized cls).before args s = true) (hstr : vk_R own is text sa s) (hat : ∀ w ∈ vx_atS own ic cls names, w.before args s = true)
    (hgood : ∀ w ∈ Cond.classLink own ik cls :: Cond.initialized cls :: vx_atS own ic cls names, vx_ot w = true)
    (hU : vx_Zq Bundle.tN "UNASSIGNED_STACK" Bundle.steD A s s.heap) (hN : vx_Zq Bundle.tN "SUPPRESSED_SENTINEL" Bundle.listD A s s.heap) (hS : va_S A s.heap H locs) (hsize : ls.size = c.maxLocals)
    (d0 : decode cc pc = .ok (.new ik, 3)) (d3 : decode cc (pc + 3) = .ok (.dup, 1)) (d4 : decode cc (pc + 4) = .ok (.ldc_w is, 3)) (d7 : decode cc (pc + 7) = .ok (.invokespecial ic, 3)) (d10 : decode cc (pc + 10) = .ok (.athrow, 1))
    (hout : ∀ x ∈ c.exceptionTable.toList, covers x (pc + 10) = false)
    (hRframes : names.length + 3 < R.frames) (hRlocals : (rest.map fun v => v.category).sum + (13 * (names.length + 1) + 43) ≤ R.locals) (hRcells : cells + 1 ≤ R.cells) (hRslots : slots + 6 ≤ R.slots) (hlocks : meth.locks = false)
    (hx : ∀ t : State, s.vm.Alike t.vm → H.size ≤ t.heap.size → (∀ q : Nat, q < H.size → t.heap[q]? = H[q]?) → XC cls s t)
    (hf : ∀ z ∈ locs, free z.base) (hc : cells + 1 ≤ mc) (hs : slots + 6 ≤ ms) :
    W p l e R s m args below meth c H locs cells slots (vx_MQ below Qc XC args s mc ms free) (F0 m pc ls rest) := by
  intro T hT X
  have htr : e.platform.stackTraces = false := (show e.platform.stackTraces = l.stackTraces by rw [X.admits.platform]).trans hl
  have Y := vx_rebase X (R' := { frames := R.frames, locals := R.locals, cells := 1, slots := 6 }) (Nat.le_refl _) (Nat.le_refl _) hRcells hRslots
  obtain ⟨s', hA⟩ : ∃ z, z = (T.setVm s.vm).setFrames (.invoking m args :: below) := ⟨_, rfl⟩
  rw [← hA] at Y
  have hvm : s'.vm = s.vm := by rw [hA]; rfl
  have hhp : s'.heap = H := by rw [hA]; exact hT
  have hW0 : s.WarmedH s'.vm := by rw [hvm]; exact State.WarmedH.refl s
  have hat' : ∀ w ∈ vx_atS own ic cls names, w.before args s' = true := fun w hw => vx_ot_at hW0 hvm.symm (hgood w (List.mem_cons_of_mem _ (List.mem_cons_of_mem _ hw))) (hat w hw)
  have hk' : (Cond.classLink own ik cls).before args s' = true := vx_ot_at hW0 hvm.symm (hgood _ List.mem_cons_self) hk
  have hini' : (Cond.initialized cls).before args s' = true := vx_ot_at hW0 hvm.symm (hgood _ (List.mem_cons_of_mem _ List.mem_cons_self)) hini
  have hU' : vx_Zq Bundle.tN "UNASSIGNED_STACK" Bundle.steD A s' s'.heap := by rw [hhp]; exact vx_Zq.moved hW0.alike (hU.kept hS.2.1)
  have hN' : vx_Zq Bundle.tN "SUPPRESSED_SENTINEL" Bundle.listD A s' s'.heap := by rw [hhp]; exact vx_Zq.moved hW0.alike (hN.kept hS.2.1)
  have h : ∀ w ∈ Bundle.ownAtoms own ic cls names, w.before args s' = true := vx_own hat' (vx_isRefq hU'.1) (vx_isRefq hN'.1) hU'.2.word hN'.2.word
  have hown' : s'.vm.findClass own = some m.cls := by rw [hvm]; exact hown
  have hins : (Cond.instantiable cls 6).before args s' = true := h _ (by simp [Bundle.ownAtoms])
  obtain ⟨vm₁, cX, kX, hfX, hkX, -, -, X₁, st1⟩ := Y.newCold hexec (own := own) (C := cls) (index := ik) (n := 6) hown' hk' hins hini'
    (g := F0 m pc ls rest) rfl (by rw [hb]; exact d0) (Nat.le_refl _) (Nat.le_refl _)
  generalize hT1 : (T.setVm vm₁).pushCell { cls := cX, slots := kX.instanceTypes.map defaultValue, vm := .none } = T1 at X₁ st1
  have hcat : (Value.ref T.heap.size).category = 1 := rfl
  have hcellA : T1.heap[T.heap.size]? = some (freshCell cX kX) := by rw [← hT1]; exact State.heap_pushCell_size _ _
  have d3' : decode c.code (pc + 3) = .ok (.dup, 1) := by rw [hb]; exact d3
  have d4' : decode c.code (pc + 4) = .ok (.ldc_w is, 3) := by rw [hb]; exact d4
  have hstr' : vk_R own is text sa s' := vk_R.warm hW0 hstr
  obtain ⟨U, hsteps, hrun, hend, hW, hsame, ce, hce, hO⟩ := X₁.ctorThrowS hexec htr (own := own) (cls := cls) (names := names) (ic := ic) hown' hcls hnames h (fun x hx => nomatch hx) hfX hkX hcellA (by rw [hhp, hT]; exact Nat.le_refl _) (msg := .ref sa) rfl
    (g := { method := m, pc := pc + 7, locals := ls, stack := .ref sa :: .ref T.heap.size :: .ref T.heap.size :: rest, locked := none }) rfl hsize rfl rfl (rest := rest) rfl
    (by rw [hb]; exact d7) (by rw [hb]; exact d10) hout hRframes (by simp only [List.map_cons, List.sum_cons, hcat]; omega) hlocks
  obtain ⟨f1, f2⟩ := vx_frame hsame
  rw [hhp] at f1 f2
  have hWs : s.WarmedH U.vm := State.WarmedH.trans hW0 hW
  have hcl : s.vm.findClass cls = some ce.cls := by
    have h9 := hO.cls
    rw [hvm] at h9
    exact h9
  have hall : s.sameButNew ({ U with vm := s.vm } : State) locs mc ms := by
    subst hA
    obtain ⟨e1, e2⟩ := hsame
    rw [State.setFrames_setFrames] at e1
    have h2 : (T.setVm s.vm).sameButNew ({ U with vm := s.vm } : State) [] (0 + 1) (0 + 6) := ⟨e1, e2⟩
    have h3 := X.same.trans h2
    rw [List.append_nil] at h3
    exact h3.mono hc hs
  refine ⟨U, ?_, .threw T.heap.size, hrun, hend, Or.inr ⟨T.heap.size, rfl, cls, ce, locs, hx U hWs.alike f1 (fun q hq => f2 q hq (fun z hz => nomatch hz)), hce, hO.vm, hcl, hWs, hall, hf⟩⟩
  refine st1 _ ?_
  show Steps p.tables e below (T1.setTop { method := m, pc := pc + 3, locals := ls, stack := .ref T.heap.size :: rest, locked := none }) _
  jvm_step X₁.here [X₁.here.top, hexec, d3', Value.category]
  exact X₁.ldcStringW hexec (own := own) (text := text) (index := is) (a := sa) hown' hstr'.1 hstr'.2
    (g := { method := m, pc := pc + 4, locals := ls, stack := .ref T.heap.size :: .ref T.heap.size :: rest, locked := none }) rfl d4' _ hsteps
end Ends
section Bodies
variable {l : Launch}
theorem vx_ofW {y : MethodName} {ws ws' : List Cond} {rm : Room} {Pc : Array Value → State → Prop} {Qc : Array Value → State → Outcome → State → Prop} {XC : String → State → State → Prop} {mc ms : Nat} {free : Addr → Prop} {cc : ByteArray} {maxL : Nat} {ret : Option FieldType}
    (hy : plainName y.cls = true) (hw : ws = Cond.code y cc maxL ret :: ws')
    (body : ∀ p e s m args below meth c s₁, BodyLoose p l y (headSpec ws rm) cc maxL ret e s m args below meth c s₁ → c.maxLocals = maxL → (∀ x ∈ c.exceptionTable.toList, False) → Pc args s →
      W p l e (headSpec ws rm).room s m args below meth c s.heap [] 0 0 (vx_MQ below Qc XC args s mc ms free) (entryFrame m args maxL)) : vx_Met l y ws rm Pc Qc XC mc ms free := by
  refine MetFree.of_bodyS (code := cc) (maxLocals := maxL) (ret := ret) hy ?_ ?_
  · intro args s m h hn
    obtain ⟨meth, c, h1, h2, h3, h4, h5, h6, -, -⟩ := Cond.code_spec hn (atoms_spec (ws := ws) h _ (by rw [hw]; exact List.mem_cons_self))
    exact ⟨meth, c, h1, h2, h3, h4, h5, h6⟩
  · intro p e s m args below meth c s₁ B hml hP _
    have hh0 : s₁.heap = s.heap := by rw [B.state]; rfl
    have ht : ∀ x ∈ c.exceptionTable.toList, False := by
      obtain ⟨meth9, c9, h1, h2, -, -, -, -, h7, -⟩ := Cond.code_spec B.named (atoms_spec (ws := ws) B.pre _ (by rw [hw]; exact List.mem_cons_self))
      cases Option.some.inj (h1.symm.trans B.method)
      cases Option.some.inj (h2.symm.trans (Stand.of_body B).code)
      intro x hx
      rw [Array.isEmpty_iff.mp h7] at hx
      cases hx
    obtain ⟨t, a1, o, b1, b2, b3⟩ := body p e s m args below meth c s₁ B hml ht hP s₁ hh0 (Stand.of_body B)
    exact ⟨t, o, a1, b1, b2, b3⟩
/-- the table of a body with handlers -/
theorem vx_table {p : Program} {x y : MethodName} {S : Spec} {cc bytes : ByteArray} {maxL maxL' : Nat} {ret ret' : Option FieldType} {e : Env} {s s₁ : State} {m : MethodId} {args : Array Value} {below : List Frame} {meth : Method} {c : Code} {hh : List (Nat × Nat × Nat × Nat)}
    (B : BodyLoose p l y S cc maxL ret e s m args below meth c s₁) (h : (Cond.codeWith y bytes maxL' ret' hh).before args s = true) : c.exceptionTable.toList = tableOf hh := by
  obtain ⟨m9, meth9, c9, hn9, h1, h2, -, -, h6, -⟩ := Cond.codeWith_spec h
  cases Option.some.inj (hn9.symm.trans B.named)
  cases Option.some.inj (h1.symm.trans B.method)
  cases Option.some.inj (h2.symm.trans (Stand.of_body B).code)
  rw [← h6, table_eq]
end Bodies
end VXA
/-! ===== END ===== -/
/-! ===== BEGIN a static call of a method with an exception table ===== -/
section VXS
variable {p : Program} {l : Launch} {e : Env} {R : Room} {s : State} {m : MethodId} {args : Array Value} {below : List Frame} {meth : Method} {c : Code} {T : State} {H : Heap} {locs : List Loc} {cells slots : Nat}
abbrev vx_CSW (R : Room) (s : State) (args : Array Value) (own : String) (index : Nat) (y : MethodName) (bytes : ByteArray) (maxL : Nat) (ret : Option FieldType) (hh : List (Nat × Nat × Nat × Nat)) (ws : List Cond) (rm : Room) (mc ms n : Nat) : Prop :=
  (rm.cells = mc ∧ rm.slots = ms ∧ rm.frames + 1 ≤ R.frames ∧ 8 + (maxL + 11) + rm.locals ≤ R.locals ∧ (∀ w ∈ ws, ∀ (a' : Array Value) (U : State), s.WarmedH U.vm → w.before a' U = true) ∧ Cond.codeWith y bytes maxL ret hh ∈ ws) ∧
  (Cond.codeWith y bytes maxL ret hh).before args s = true ∧ (Cond.initialized y.cls).before args s = true ∧ (y.cls ≠ "java/lang/invoke/MethodHandle" ∧ y.cls ≠ "java/lang/invoke/VarHandle") ∧
  (∀ sig, parseMethodDescriptor y.desc = some sig → n = sig.parameters.length) ∧ (Cond.methodLink own index y).before args s = true ∧ (Cond.static y).before args s = true
theorem vx_cwSW {own : String} {index maxL mc ms : Nat} {y : MethodName} {bytes : ByteArray} {ret : Option FieldType} {hh : List (Nat × Nat × Nat × Nat)} {Ts ws ws' : List Cond} {rm : Room} (n : Nat) (ht : ∀ w ∈ Ts, w.before args s = true) (hT : GoodIn Ts (va_wsS own index y ws)) (hw : ws = Cond.codeWith y bytes maxL ret hh :: ws') (hrc : rm.cells = mc) (hrs : rm.slots = ms)
    (hd : y.cls ≠ "java/lang/invoke/MethodHandle" ∧ y.cls ≠ "java/lang/invoke/VarHandle" ∧ (parseMethodDescriptor y.desc).map (fun d => d.parameters.length) = some n) (hR : rm.frames + 1 ≤ R.frames ∧ 8 + (maxL + 11) + rm.locals ≤ R.locals) :
    vx_CSW R s args own index y bytes maxL ret hh ws rm mc ms n := by
  have ok : ∀ w ∈ va_wsS own index y ws, w.before args s = true := fun w h => ht w (hT w h).1
  have hG : GoodIn Ts ws := fun w h => hT w (by unfold va_wsS; exact List.mem_append_right _ h)
  have hc : Cond.codeWith y bytes maxL ret hh ∈ ws := by rw [hw]; exact List.mem_cons_self
  refine ⟨⟨hrc, hrs, hR.1, hR.2, pay_in ht hG, hc⟩, ht _ (hG _ hc).1, ok _ (by simp [va_wsS]), ⟨hd.1, hd.2.1⟩, fun sig h => ?_, ok _ (by simp [va_wsS]), ok _ (by simp [va_wsS])⟩
  have h2 := hd.2.2
  rw [h] at h2
  exact (Option.some.inj h2).symm
theorem vx_callSW (X : Stand p l e R s m args below meth c T locs cells slots) (hexec : p.tables.exec = Jvm.exec) {own : String} {index : Nat} {y : MethodName} {bytes : ByteArray} {maxL : Nat} {ret : Option FieldType} {hh : List (Nat × Nat × Nat × Nat)}
    (hown : s.vm.findClass own = some m.cls) (hlink : (Cond.methodLink own index y).before args s = true) (hstat : (Cond.static y).before args s = true) (hinit : (Cond.initialized y.cls).before args s = true)
    (hcode : (Cond.codeWith y bytes maxL ret hh).before args s = true) (hy : y.cls ≠ "java/lang/invoke/MethodHandle" ∧ y.cls ≠ "java/lang/invoke/VarHandle")
    {W9 : Nat} {Pre : Pt → Array Value → Prop} {Post : Pt → Array Value → Option Value → Pt → Prop} (hK : Back l R p e below s args y 3 W9 Pre Post)
    {g : JFrame} (hg : g.method = m) (hsize : g.locals.size = c.maxLocals) {argsL rest : List Value} (hlen : ∀ sig, parseMethodDescriptor y.desc = some sig → argsL.length = sig.parameters.length)
    (hstack : g.stack = argsL.reverse ++ rest) (hW : 2 * g.monitorRoom + (rest.map fun v => v.category).sum ≤ W9) (hdg : decode c.code g.pc = .ok (.invokestatic index, 3))
    (hpre : ∀ vm₁, s.WarmedH vm₁ → Pre ⟨T.setVm vm₁, locs, cells, slots⟩ argsL.toArray) :
    ∃ (v : Option Value) (vm₁ : Vm) (B : Pt), s.WarmedH vm₁ ∧ Stand p l e R s m args below meth c B.U B.locs B.cells B.slots ∧ Post ⟨T.setVm vm₁, locs, cells, slots⟩ argsL.toArray v B ∧
      ∀ target, Steps p.tables e below (B.U.setTop { g with pc := g.pc + 3, stack := v.toList ++ rest }) target → Steps p.tables e below (T.setTop g) target := by
  obtain ⟨mk, methM, cM, hnamed, hmethM, -, -, -, -, -, -, hsigM⟩ := Cond.codeWith_spec hcode
  have hstatic : methM.isStatic = true := Cond.static_spec hnamed hmethM hstat
  obtain ⟨kP, hkP, -⟩ := className_of_methodNamed hnamed
  have hinitP : kP.init = .initialized := Cond.initialized_spec (findClass_of_methodNamed hnamed) hkP hinit
  obtain ⟨vm₁, X₁, hstep₁⟩ := X.invokestatic hexec hown hlink hnamed hmethM hstatic hkP hinitP hy (g := g) hg (argsL := argsL) (rest := rest) (hlen _ hsigM) hstack hdg
  obtain ⟨v, B, X', hpost, hsteps⟩ := hK m meth c ⟨T.setVm vm₁, locs, cells, slots⟩ { g with stack := rest } (.invokestatic index) mk argsL.toArray X₁ hg hsize hdg hW (X₁.named hnamed) (hpre vm₁ X₁.warmed)
  exact ⟨v, vm₁, B, X₁.warmed, X', hpost, fun target h => hstep₁ _ fun acts => by rw [doInvoke_state]; exact hsteps.trans h⟩
theorem vx_runSW {y : MethodName} {bytes cc : ByteArray} {maxL nL mc ms n index : Nat} {ret : Option FieldType} {hh : List (Nat × Nat × Nat × Nat)} {ws : List Cond} {rm : Room} {Pc : Array Value → State → Prop} {Qc : Array Value → State → Outcome → State → Prop} {free : Addr → Prop} {Ts : List Cond} {own : String} {As rest : List Value} {g : JFrame}
    (S : CallFix p m c cc nL s args Ts own) (hM : Met l y ws rm Pc Qc mc ms free) (cw : vx_CSW R s args own index y bytes maxL ret hh ws rm mc ms n) (hp : PreS s H Pc As)
    (hg : g.method = m) (hn : As.length = n) (hsize : g.locals.size = nL) (hstack : g.stack = As.reverse ++ rest) (hW : 2 * g.monitorRoom + (rest.map fun v => v.category).sum ≤ 8) (hdg : decode cc g.pc = .ok (.invokestatic index, 3)) (hf : cells + mc ≤ R.cells ∧ slots + ms ≤ R.slots) :
    va_Run p l e R s m args below meth c H locs cells slots mc ms g rest (Qc As.toArray) (free) := by
  obtain ⟨⟨hrc, hrs, hfr, hlo, hws, hcw⟩, hcode, hini, hy, hlen, hl, hstt⟩ := cw
  have hK : Back l R p e below s args y 3 8 (PreOf R mc ms Pc) (PostOf Qc mc ms free) := va_backW (hh := hh) (bytes := bytes) (maxL := maxL) (ret := ret) hM hp.1 hrc hrs hfr hlo hws hcw (fun a' U hW => word_at hW (Or.inl (by first | rfl | simp [Cond.onTables, Cond.keeps, Cond.steady])) hini)
  obtain ⟨hx, hb, hml, ho, -⟩ := S
  intro T hT X
  obtain ⟨v, vm₁, ⟨U', l2, c2, s2⟩, hW₁, X', ⟨g', mk, t, L, e1, e2, hq, h1, hL, h2, h3⟩, st⟩ := vx_callSW X hx (hh := hh) (bytes := bytes) (maxL := maxL) (ret := ret) ho hl hstt hini hcode hy hK hg (hsize.trans hml.symm) (argsL := As) (rest := rest) (fun sig h => hn.trans (hlen sig h)) hstack hW (by rw [hb]; exact hdg)
    (fun vm₁ hW₁ => ⟨hf.1, hf.2, hp.2 (T.setVm vm₁) hT hW₁⟩)
  dsimp only [Pt.U, Pt.locs, Pt.cells, Pt.slots] at X' e1 e2 h1 h2 h3 st
  subst h1; subst h2; subst h3
  exact ⟨v, (T.setVm vm₁).calling g' mk As.toArray, t, U', L, hT, X', hL, e1, e2, hq, st⟩
/-- not caught here, past rows that name other classes: it goes on to the caller -/
theorem vx_outP {p : Program} {l : Launch} {e : Env} {R : Room} {s : State} {m : MethodId} {args : Array Value} {below : List Frame} {meth : Method} {c : Code} {H : Heap} {locs : List Loc} {cells slots : Nat} {free : Addr → Prop} {ls : Array Slot} {rest : List Value} {Qc : Array Value → State → Outcome → State → Prop} {XC : String → State → State → Prop}
    {pc : Nat} {own E : String} {ce : Cell} {q : Addr} {mc ms : Nat} (hown : s.vm.findClass own = some m.cls) (hlocks : meth.locks = false)
    (hpass : ∀ z ∈ c.exceptionTable.toList, covers z pc = false ∨ (z.catchType ≠ 0 ∧ ∃ nm : String, (Cond.classLink own z.catchType nm).before args s = true ∧ va_Nc E nm s)) (hcell : H[q]? = some ce) (hv : ce.vm = .none) (hcl : s.vm.findClass E = some ce.cls)
    (hx : ∀ t : State, t.heap = H → s.vm.Alike t.vm → XC E s t) (hf : ∀ z ∈ locs, free z.base) (hc : cells ≤ mc) (hs : slots ≤ ms) :
    vx_W p l e R s m args below meth c H locs cells slots (vx_MQ below Qc XC args s mc ms free) (F0 m pc ls rest) q := by
  intro T hT X
  have hpl : e.platform.magicAccessors = ({} : Platform).magicAccessors := by rw [X.admits.platform]
  obtain ⟨vm', hW', X', st⟩ := X.outThrough hlocks q (g := F0 m pc ls rest) rfl rfl rfl (cell := ce) (by rw [hT]; exact hcell) (by rw [hv]; rfl)
    (by obtain ⟨k9, h9, -⟩ := Vm.findClass_spec hcl; exact ⟨k9, h9⟩) (fun z hz => by
      rcases hpass z hz with h | ⟨hz0, nm, hl1, hn1⟩
      · exact Or.inl h
      · obtain ⟨c6, hc6, hcl6⟩ := Cond.classLink_spec hown hl1 e.platform hpl
        obtain ⟨a8, b8, h1, h2, h3⟩ := hn1
        cases Option.some.inj (h1.symm.trans hcl)
        cases Option.some.inj (h2.symm.trans hc6)
        exact Or.inr ⟨hz0, _, hcl6, h3⟩)
  obtain ⟨g₀, hfr⟩ := X'.frames_eq
  have hcell9 : ((T.setVm vm').setFrames (.throwing q :: below)).heap[q]? = some ce := by
    show T.heap[q]? = some ce
    rw [hT]; exact hcell
  have hend : Ended ((T.setVm vm').setFrames (.throwing q :: below)) below (.threw q) := State.frames_setFrames _ (State.cur_lt_of_frames hfr)
  refine ⟨(T.setVm vm').setFrames (.throwing q :: below), ?_, .threw q, X'.here.running, hend, Or.inr ⟨q, rfl, E, ce, locs, hx _ hT (X'.ends _).1.alike, hcell9, hv, hcl, (X'.ends _).1, (X'.ends _).2.mono hc hs, hf⟩⟩
  rw [X.pushThrowing_eq]
  exact st
/-- a thing of a world lies in the heap -/
theorem vx_lt {D : va_G} {cl : List vw_C} {ws : va_W} {H1 : Heap} (h : va_P D cl ws H1) {k : Nat} {q : Nat × va_E} (hk : ws[k]? = some q) : q.1 < H1.size := (h k q hk).lt
end VXS
/-! ===== END ===== -/
/-! ===== BEGIN methods with a table of their own: called by a name, returning or throwing ===== -/
section VXH
/-! vx_backW, vx_callVX, vx_callSX, vx_callVW, vx_runVW, vx_runVX, vx_runSX, vx_ofWH follow the same proofs as their sisters above (Free/Laws.lean, Shelf42/LK1.lean); vx_outP calls Shelf42/NT130.lean (outThrough). -/
section
variable {l : Launch} {R : Room} {p : Program} {e : Env} {below : List Frame} {s : State} {sargs : Array Value} {y : MethodName} {len W9 : Nat}
theorem vx_backW {ws : List Cond} {rm : Room} {Pc : Array Value → State → Prop} {Qc : Array Value → State → Outcome → State → Prop} {XC : String → State → State → Prop} {mc ms : Nat} {free : Addr → Prop} {bytes : ByteArray} {maxL : Nat} {ret : Option FieldType} {hh : List (Nat × Nat × Nat × Nat)}
    (hM : vx_Met l y ws rm Pc Qc XC mc ms free) (hblind : FrameBlind Pc) (hrc : rm.cells = mc) (hrs : rm.slots = ms)
    (hframes : rm.frames + 1 ≤ R.frames) (hlocals : W9 + (maxL + 11) + rm.locals ≤ R.locals)
    (hws : ∀ w ∈ ws, ∀ a' U, s.WarmedH U.vm → w.before a' U = true) (hcode : Cond.codeWith y bytes maxL ret hh ∈ ws) (hinit : ∀ a' U, s.WarmedH U.vm → (Cond.initialized y.cls).before a' U = true) :
    vx_Back l R p e below s sargs y len W9 (PreOf R mc ms Pc) (PostOf Qc mc ms free) (vx_Post XC mc ms free) := by
  intro m meth c A g ig mk a X hg hsize hdg hW hn hp
  have h1 : (headSpec ws rm).pre.before a A.U = true := atoms_intro fun w hw => hws w hw _ _ X.warmed
  have h2 : (Cond.codeWith y bytes maxL ret hh).before a A.U = true := hws _ hcode _ _ X.warmed
  have h3 : (Cond.initialized y.cls).before a A.U = true := hinit _ _ X.warmed
  have h4 : A.cells + (headSpec ws rm).room.cells ≤ R.cells := by rw [show (headSpec ws rm).room.cells = mc from hrc]; exact hp.1
  have h5 : A.slots + (headSpec ws rm).room.slots ≤ R.slots := by rw [show (headSpec ws rm).room.slots = ms from hrs]; exact hp.2.1
  have hPc : Pc a (A.U.calling g mk a) := hblind _ _ _ _ hp.2.2
  obtain ⟨U, Ls, c0, s0⟩ := A
  dsimp only [Pt.U, Pt.locs, Pt.cells, Pt.slots] at h1 h2 h3 h4 h5 X hn hPc ⊢
  obtain ⟨m9, methY, cY, hn9, hmY, hcY, -, hlY, -⟩ := Cond.codeWith_spec h2
  cases Option.some.inj (hn9.symm.trans hn)
  obtain ⟨kY, hkY, -⟩ := className_of_methodNamed hn
  have hinitY : kY.init = .initialized := Cond.initialized_spec (findClass_of_methodNamed hn) hkY h3
  have h : At U g.method c below := by rw [hg]; exact X.here
  have hlocals9 : W9 + (maxL + 11) + (headSpec ws rm).room.locals ≤ R.locals := hlocals
  have happ : (headSpec ws rm).appliesLoose y e.platform (U.calling g mk a) = true :=
    Spec.appliesLoose_calling (g := g) h hdg hn hkY hinitY
      (X.room_calling (g := g) (R' := (headSpec ws rm).room) hsize hmY hcY hframes (by rw [hlY]; omega) h4 h5) h1
  obtain ⟨mid, hmid⟩ := h.above
  have hfr : (U.setTop g).frames = (.java g :: mid) ++ below := by rw [State.frames_setTop' g h.top, hmid]; rfl
  obtain ⟨o, s₂, hsteps, -, hend, hq⟩ := Steps.callFree hM p X.admits X.cas X.clock (acts := []) hfr happ hPc trivial
  have hq' : vx_Q Qc XC mc ms free a (U.calling g mk a) o s₂ := hq
  rw [State.frames_setTop' g h.top] at hend
  obtain ⟨g₀, hg0⟩ := Option.isSome_iff_exists.mp h.top
  obtain ⟨r, hr⟩ := State.topJava?_eq_some.mp hg0
  have hr' : (({ U with heap := s₂.heap, slotsUsed := s₂.slotsUsed } : State).setVm s₂.vm).frames = .java g₀ :: r := hr
  rcases hq' with ⟨hqc, L, hfe, hL⟩ | ⟨q, rfl, E, ce, L, hx, hce, hcv, hcl, hW₂, hsm, hL⟩
  · obtain ⟨⟨v, rfl⟩, hW₂, e2, q2, q3, q4, q5, q6⟩ := id hfe
    have e3 : s₂ = ({ (U.calling g mk a).setFrames s₂.frames with heap := s₂.heap, slotsUsed := s₂.slotsUsed } : State).setVm s₂.vm := by
      have : s₂ = ({ s₂ with vm := (U.calling g mk a).vm } : State).setVm s₂.vm := rfl
      rw [e2] at this
      exact this
    obtain ⟨c₂, i₂, len₂, hc₂, hd₂, hf₂⟩ := hend
    have hW' : U.WarmedH s₂.vm := hW₂
    have hcc : c₂ = c := by
      have h1 : s₂.code? g.method = U.code? g.method := by
        rw [State.code?_eq, State.code?_eq, hW'.alike.method?]
      exact Option.some.inj (hc₂.symm.trans (h1.trans h.code))
    subst hcc
    have hlen : len₂ = len := by rw [hdg] at hd₂; cases hd₂; rfl
    subst hlen
    have hs₂ : s₂ = (({ U with heap := s₂.heap, slotsUsed := s₂.slotsUsed } : State).setVm s₂.vm).setTop { g with pc := g.pc + len₂, stack := v.toList ++ g.stack } := by
      refine e3.trans ?_
      rw [hf₂, State.calling_eq h.top, State.setFrames_setFrames, State.setTop_of_frames _ hr', hr]
      rfl
    have hsame : U.sameButNew ({ U with heap := s₂.heap, slotsUsed := s₂.slotsUsed } : State) L mc ms := by
      refine ⟨?_, q2, q3, q4, q5, q6⟩
      obtain ⟨t, ht, -⟩ := State.frames_cons hr
      show ({ U with heap := s₂.heap, slotsUsed := s₂.slotsUsed } : State) = { U.setFrames U.frames with heap := s₂.heap, slotsUsed := s₂.slotsUsed }
      rw [State.setFrames_self ht]
    subst hg
    refine Or.inl ⟨v, ⟨(({ U with heap := s₂.heap, slotsUsed := s₂.slotsUsed } : State).setVm s₂.vm), Ls ++ L, c0 + mc, s0 + ms⟩,
      ⟨X.admits, X.cas, X.clock, X.frames, X.room, X.hears, X.method, X.code, (X.here.setHeapUsed s₂.heap s₂.slotsUsed).setVm hW'.alike, X.tail, State.WarmedH.trans X.warmed hW', X.limits, X.bytes, X.same.trans (hsame.setVm s.vm)⟩,
      ⟨g, mk, s₂, L, rfl, rfl, hqc, rfl, hL, rfl, rfl⟩, ?_⟩
    show Steps p.tables e below _ ((({ U with heap := s₂.heap, slotsUsed := s₂.slotsUsed } : State).setVm s₂.vm).setTop { g with pc := g.pc + len₂, stack := v.toList ++ g.stack })
    rw [← hs₂]
    exact hsteps
  · obtain ⟨e2, q2, q3, q4, q5, q6⟩ := id hsm
    have e3 : s₂ = ({ (U.calling g mk a).setFrames s₂.frames with heap := s₂.heap, slotsUsed := s₂.slotsUsed } : State).setVm s₂.vm := by
      have : s₂ = ({ s₂ with vm := (U.calling g mk a).vm } : State).setVm s₂.vm := rfl
      rw [e2] at this
      exact this
    have hf₂ : s₂.frames = .throwing q :: .java g :: U.frames.tail := hend
    have hW' : U.WarmedH s₂.vm := hW₂
    have hs₂ : s₂ = ((({ U with heap := s₂.heap, slotsUsed := s₂.slotsUsed } : State).setVm s₂.vm).setTop g).pushFrame (.throwing q) := by
      refine e3.trans ?_
      rw [hf₂, State.calling_eq h.top, State.setFrames_setFrames, State.pushFrame, State.frames_setTop _ hr', State.setTop_of_frames _ hr', State.setFrames_setFrames, hr]
      rfl
    have hsame : U.sameButNew ({ U with heap := s₂.heap, slotsUsed := s₂.slotsUsed } : State) L mc ms := by
      refine ⟨?_, q2, q3, q4, q5, q6⟩
      obtain ⟨t, ht, -⟩ := State.frames_cons hr
      show ({ U with heap := s₂.heap, slotsUsed := s₂.slotsUsed } : State) = { U.setFrames U.frames with heap := s₂.heap, slotsUsed := s₂.slotsUsed }
      rw [State.setFrames_self ht]
    subst hg
    refine Or.inr ⟨q, ⟨(({ U with heap := s₂.heap, slotsUsed := s₂.slotsUsed } : State).setVm s₂.vm), Ls ++ L, c0 + mc, s0 + ms⟩,
      ⟨X.admits, X.cas, X.clock, X.frames, X.room, X.hears, X.method, X.code, (X.here.setHeapUsed s₂.heap s₂.slotsUsed).setVm hW'.alike, X.tail, State.WarmedH.trans X.warmed hW', X.limits, X.bytes, X.same.trans (hsame.setVm s.vm)⟩,
      ⟨g, mk, s₂, L, E, ce, rfl, rfl, hx, hce, hcv, hcl, rfl, hL, rfl, rfl⟩, ?_⟩
    show Steps p.tables e below _ (((({ U with heap := s₂.heap, slotsUsed := s₂.slotsUsed } : State).setVm s₂.vm).setTop g).pushFrame (.throwing q))
    rw [← hs₂]
    exact hsteps
end
variable {p : Program} {l : Launch} {e : Env} {R : Room} {s : State} {m : MethodId} {args : Array Value} {below : List Frame} {meth : Method} {c : Code} {T : State} {H : Heap} {locs : List Loc} {cells slots : Nat}
theorem vx_callVX (X : Stand p l e R s m args below meth c T locs cells slots) (hexec : p.tables.exec = Jvm.exec) {own C : String} {index : Nat} {y : MethodName} {bytes : ByteArray} {maxL : Nat} {ret : Option FieldType} {hh : List (Nat × Nat × Nat × Nat)}
    (hown : s.vm.findClass own = some m.cls) (hlink : (Cond.methodLink own index y).before args s = true) (hinst : (Cond.instanceMethod y).before args s = true) (hsel : (Cond.selects C y y).before args s = true)
    (hcode : (Cond.codeWith y bytes maxL ret hh).before args s = true) (hy : y.cls ≠ "java/lang/invoke/MethodHandle" ∧ y.cls ≠ "java/lang/invoke/VarHandle")
    {W9 : Nat} {Pre : Pt → Array Value → Prop} {Post : Pt → Array Value → Option Value → Pt → Prop} {PostX : Pt → Array Value → Addr → Pt → Prop} (hK : vx_Back l R p e below s args y 3 W9 Pre Post PostX)
    {b : Addr} {cellB : Cell} (hcell : T.heap[b]? = some cellB) (hobj : cellB.vm.isStatics = false) (hcls : s.vm.findClass C = some cellB.cls)
    {g : JFrame} (hg : g.method = m) (hsize : g.locals.size = c.maxLocals) {argsL rest : List Value} (hlen : ∀ sig, parseMethodDescriptor y.desc = some sig → argsL.length = sig.parameters.length)
    (hstack : g.stack = argsL.reverse ++ .ref b :: rest) (hW : 2 * g.monitorRoom + (rest.map fun v => v.category).sum ≤ W9) (hdg : decode c.code g.pc = .ok (.invokevirtual index, 3))
    (hpre : ∀ vm₁, s.WarmedH vm₁ → Pre ⟨T.setVm vm₁, locs, cells, slots⟩ (Value.ref b :: argsL).toArray) :
    (∃ (v : Option Value) (vm₁ : Vm) (B : Pt), s.WarmedH vm₁ ∧ Stand p l e R s m args below meth c B.U B.locs B.cells B.slots ∧ Post ⟨T.setVm vm₁, locs, cells, slots⟩ (Value.ref b :: argsL).toArray v B ∧
      ∀ target, Steps p.tables e below (B.U.setTop { g with pc := g.pc + 3, stack := v.toList ++ rest }) target → Steps p.tables e below (T.setTop g) target) ∨
    (∃ (q : Addr) (vm₁ : Vm) (B : Pt), s.WarmedH vm₁ ∧ Stand p l e R s m args below meth c B.U B.locs B.cells B.slots ∧ PostX ⟨T.setVm vm₁, locs, cells, slots⟩ (Value.ref b :: argsL).toArray q B ∧
      Steps p.tables e below (T.setTop g) ((B.U.setTop { g with stack := rest }).pushFrame (.throwing q))) := by
  obtain ⟨mk, methM, hnamed, hmethM, hstM, habM⟩ := Cond.instanceMethod_spec hinst
  obtain ⟨m8, methM', cM, hn8, hmethM', -, -, -, -, -, -, hsigM⟩ := Cond.codeWith_spec hcode
  cases Option.some.inj (hn8.symm.trans hnamed)
  cases hmethM.symm.trans hmethM'
  obtain ⟨c2, r2, m2, q1, q2, q3, q4, kP, hkP, hkPi⟩ := Cond.selects_spec hsel
  cases hcls.symm.trans q1
  cases (State.methodFound?_of_named hnamed hy).symm.trans q2
  cases hnamed.symm.trans q3
  have hselP : selectMethod e.platform s.vm cellB.cls mk = .method mk := by rw [Launch.admits_selectMethod X.admits]; exact q4
  obtain ⟨vm₁, X₁, hstep₁⟩ := X.invokevirtual hexec hown hlink hnamed hmethM hstM hkP hkPi hy (a := b) (cell := cellB) hcell
    (fun z h => by rw [h] at hobj; cases hobj) hselP hmethM habM hkP hkPi (g := g) hg (argsL := argsL) (rest := rest) (hlen _ hsigM) hstack hdg
  rcases hK m meth c ⟨T.setVm vm₁, locs, cells, slots⟩ { g with stack := rest } (.invokevirtual index) mk (Value.ref b :: argsL).toArray X₁ hg hsize hdg hW (X₁.named hnamed) (hpre vm₁ X₁.warmed) with ⟨v, B, X', hpost, hsteps⟩ | ⟨q, B, X', hpost, hsteps⟩
  · exact Or.inl ⟨v, vm₁, B, X₁.warmed, X', hpost, fun target h => hstep₁ _ fun acts => by rw [doInvoke_state]; exact hsteps.trans h⟩
  · exact Or.inr ⟨q, vm₁, B, X₁.warmed, X', hpost, hstep₁ _ fun acts => by rw [doInvoke_state]; exact hsteps⟩
theorem vx_callSX (X : Stand p l e R s m args below meth c T locs cells slots) (hexec : p.tables.exec = Jvm.exec) {own : String} {index : Nat} {y : MethodName} {bytes : ByteArray} {maxL : Nat} {ret : Option FieldType} {hh : List (Nat × Nat × Nat × Nat)}
    (hown : s.vm.findClass own = some m.cls) (hlink : (Cond.methodLink own index y).before args s = true) (hstat : (Cond.static y).before args s = true) (hinit : (Cond.initialized y.cls).before args s = true)
    (hcode : (Cond.codeWith y bytes maxL ret hh).before args s = true) (hy : y.cls ≠ "java/lang/invoke/MethodHandle" ∧ y.cls ≠ "java/lang/invoke/VarHandle")
    {W9 : Nat} {Pre : Pt → Array Value → Prop} {Post : Pt → Array Value → Option Value → Pt → Prop} {PostX : Pt → Array Value → Addr → Pt → Prop} (hK : vx_Back l R p e below s args y 3 W9 Pre Post PostX)
    {g : JFrame} (hg : g.method = m) (hsize : g.locals.size = c.maxLocals) {argsL rest : List Value} (hlen : ∀ sig, parseMethodDescriptor y.desc = some sig → argsL.length = sig.parameters.length)
    (hstack : g.stack = argsL.reverse ++ rest) (hW : 2 * g.monitorRoom + (rest.map fun v => v.category).sum ≤ W9) (hdg : decode c.code g.pc = .ok (.invokestatic index, 3))
    (hpre : ∀ vm₁, s.WarmedH vm₁ → Pre ⟨T.setVm vm₁, locs, cells, slots⟩ argsL.toArray) :
    (∃ (v : Option Value) (vm₁ : Vm) (B : Pt), s.WarmedH vm₁ ∧ Stand p l e R s m args below meth c B.U B.locs B.cells B.slots ∧ Post ⟨T.setVm vm₁, locs, cells, slots⟩ argsL.toArray v B ∧
      ∀ target, Steps p.tables e below (B.U.setTop { g with pc := g.pc + 3, stack := v.toList ++ rest }) target → Steps p.tables e below (T.setTop g) target) ∨
    (∃ (q : Addr) (vm₁ : Vm) (B : Pt), s.WarmedH vm₁ ∧ Stand p l e R s m args below meth c B.U B.locs B.cells B.slots ∧ PostX ⟨T.setVm vm₁, locs, cells, slots⟩ argsL.toArray q B ∧
      Steps p.tables e below (T.setTop g) ((B.U.setTop { g with stack := rest }).pushFrame (.throwing q))) := by
  obtain ⟨mk, methM, cM, hnamed, hmethM, -, -, -, -, -, -, hsigM⟩ := Cond.codeWith_spec hcode
  have hstatic : methM.isStatic = true := Cond.static_spec hnamed hmethM hstat
  obtain ⟨kP, hkP, -⟩ := className_of_methodNamed hnamed
  have hinitP : kP.init = .initialized := Cond.initialized_spec (findClass_of_methodNamed hnamed) hkP hinit
  obtain ⟨vm₁, X₁, hstep₁⟩ := X.invokestatic hexec hown hlink hnamed hmethM hstatic hkP hinitP hy (g := g) hg (argsL := argsL) (rest := rest) (hlen _ hsigM) hstack hdg
  rcases hK m meth c ⟨T.setVm vm₁, locs, cells, slots⟩ { g with stack := rest } (.invokestatic index) mk argsL.toArray X₁ hg hsize hdg hW (X₁.named hnamed) (hpre vm₁ X₁.warmed) with ⟨v, B, X', hpost, hsteps⟩ | ⟨q, B, X', hpost, hsteps⟩
  · exact Or.inl ⟨v, vm₁, B, X₁.warmed, X', hpost, fun target h => hstep₁ _ fun acts => by rw [doInvoke_state]; exact hsteps.trans h⟩
  · exact Or.inr ⟨q, vm₁, B, X₁.warmed, X', hpost, hstep₁ _ fun acts => by rw [doInvoke_state]; exact hsteps⟩
theorem vx_callVW (X : Stand p l e R s m args below meth c T locs cells slots) (hexec : p.tables.exec = Jvm.exec) {own C : String} {index : Nat} {y : MethodName} {bytes : ByteArray} {maxL : Nat} {ret : Option FieldType} {hh : List (Nat × Nat × Nat × Nat)}
    (hown : s.vm.findClass own = some m.cls) (hlink : (Cond.methodLink own index y).before args s = true) (hinst : (Cond.instanceMethod y).before args s = true) (hsel : (Cond.selects C y y).before args s = true)
    (hcode : (Cond.codeWith y bytes maxL ret hh).before args s = true) (hy : y.cls ≠ "java/lang/invoke/MethodHandle" ∧ y.cls ≠ "java/lang/invoke/VarHandle")
    {W9 : Nat} {Pre : Pt → Array Value → Prop} {Post : Pt → Array Value → Option Value → Pt → Prop} (hK : Back l R p e below s args y 3 W9 Pre Post)
    {b : Addr} {cellB : Cell} (hcell : T.heap[b]? = some cellB) (hobj : cellB.vm.isStatics = false) (hcls : s.vm.findClass C = some cellB.cls)
    {g : JFrame} (hg : g.method = m) (hsize : g.locals.size = c.maxLocals) {argsL rest : List Value} (hlen : ∀ sig, parseMethodDescriptor y.desc = some sig → argsL.length = sig.parameters.length)
    (hstack : g.stack = argsL.reverse ++ .ref b :: rest) (hW : 2 * g.monitorRoom + (rest.map fun v => v.category).sum ≤ W9) (hdg : decode c.code g.pc = .ok (.invokevirtual index, 3))
    (hpre : ∀ vm₁, s.WarmedH vm₁ → Pre ⟨T.setVm vm₁, locs, cells, slots⟩ (Value.ref b :: argsL).toArray) :
    ∃ (v : Option Value) (vm₁ : Vm) (B : Pt), s.WarmedH vm₁ ∧ Stand p l e R s m args below meth c B.U B.locs B.cells B.slots ∧ Post ⟨T.setVm vm₁, locs, cells, slots⟩ (Value.ref b :: argsL).toArray v B ∧
      ∀ target, Steps p.tables e below (B.U.setTop { g with pc := g.pc + 3, stack := v.toList ++ rest }) target → Steps p.tables e below (T.setTop g) target := by
  obtain ⟨mk, methM, hnamed, hmethM, hstM, habM⟩ := Cond.instanceMethod_spec hinst
  obtain ⟨m8, methM', cM, hn8, hmethM', -, -, -, -, -, -, hsigM⟩ := Cond.codeWith_spec hcode
  cases Option.some.inj (hn8.symm.trans hnamed)
  cases hmethM.symm.trans hmethM'
  obtain ⟨c2, r2, m2, q1, q2, q3, q4, kP, hkP, hkPi⟩ := Cond.selects_spec hsel
  cases hcls.symm.trans q1
  cases (State.methodFound?_of_named hnamed hy).symm.trans q2
  cases hnamed.symm.trans q3
  have hselP : selectMethod e.platform s.vm cellB.cls mk = .method mk := by rw [Launch.admits_selectMethod X.admits]; exact q4
  obtain ⟨vm₁, X₁, hstep₁⟩ := X.invokevirtual hexec hown hlink hnamed hmethM hstM hkP hkPi hy (a := b) (cell := cellB) hcell
    (fun z h => by rw [h] at hobj; cases hobj) hselP hmethM habM hkP hkPi (g := g) hg (argsL := argsL) (rest := rest) (hlen _ hsigM) hstack hdg
  obtain ⟨v, B, X', hpost, hsteps⟩ := hK m meth c ⟨T.setVm vm₁, locs, cells, slots⟩ { g with stack := rest } (.invokevirtual index) mk (Value.ref b :: argsL).toArray X₁ hg hsize hdg hW (X₁.named hnamed) (hpre vm₁ X₁.warmed)
  exact ⟨v, vm₁, B, X₁.warmed, X', hpost, fun target h => hstep₁ _ fun acts => by rw [doInvoke_state]; exact hsteps.trans h⟩
abbrev vx_CVW (R : Room) (s : State) (args : Array Value) (own C : String) (index : Nat) (y : MethodName) (bytes : ByteArray) (maxL : Nat) (ret : Option FieldType) (hh : List (Nat × Nat × Nat × Nat)) (ws : List Cond) (rm : Room) (mc ms n : Nat) : Prop :=
  (rm.cells = mc ∧ rm.slots = ms ∧ rm.frames + 1 ≤ R.frames ∧ 8 + (maxL + 11) + rm.locals ≤ R.locals ∧ (∀ w ∈ ws, ∀ (a' : Array Value) (U : State), s.WarmedH U.vm → w.before a' U = true) ∧ Cond.codeWith y bytes maxL ret hh ∈ ws) ∧
  (Cond.codeWith y bytes maxL ret hh).before args s = true ∧ (Cond.initialized y.cls).before args s = true ∧ (y.cls ≠ "java/lang/invoke/MethodHandle" ∧ y.cls ≠ "java/lang/invoke/VarHandle") ∧
  (∀ sig, parseMethodDescriptor y.desc = some sig → n = sig.parameters.length) ∧ (Cond.methodLink own index y).before args s = true ∧ (Cond.instanceMethod y).before args s = true ∧ (Cond.selects C y y).before args s = true
theorem vx_cwVW {own C : String} {index maxL mc ms : Nat} {y : MethodName} {bytes : ByteArray} {ret : Option FieldType} {hh : List (Nat × Nat × Nat × Nat)} {Ts ws ws' : List Cond} {rm : Room} (n : Nat) (ht : ∀ w ∈ Ts, w.before args s = true) (hT : GoodIn Ts (wsV own index C y ws)) (hw : ws = Cond.codeWith y bytes maxL ret hh :: ws') (hrc : rm.cells = mc) (hrs : rm.slots = ms)
    (hd : y.cls = C ∧ y.cls ≠ "java/lang/invoke/MethodHandle" ∧ y.cls ≠ "java/lang/invoke/VarHandle" ∧ (parseMethodDescriptor y.desc).map (fun d => d.parameters.length) = some n) (hR : rm.frames + 1 ≤ R.frames ∧ 8 + (maxL + 11) + rm.locals ≤ R.locals) :
    vx_CVW R s args own C index y bytes maxL ret hh ws rm mc ms n := by
  obtain ⟨hC, hd⟩ := hd
  subst hC
  have ok : ∀ w ∈ wsV own index y.cls y ws, w.before args s = true := fun w h => ht w (hT w h).1
  have hG : GoodIn Ts ws := fun w h => hT w (by unfold wsV; exact List.mem_append_right _ h)
  have hc : Cond.codeWith y bytes maxL ret hh ∈ ws := by rw [hw]; exact List.mem_cons_self
  refine ⟨⟨hrc, hrs, hR.1, hR.2, pay_in ht hG, hc⟩, ht _ (hG _ hc).1, ok _ (by simp [wsV]), ⟨hd.1, hd.2.1⟩, fun sig h => ?_, ok _ (by simp [wsV]), ok _ (by simp [wsV]), ok _ (by simp [wsV])⟩
  have h2 := hd.2.2
  rw [h] at h2
  exact (Option.some.inj h2).symm
theorem vx_runVW {y : MethodName} {bytes cc : ByteArray} {maxL nL mc ms n index : Nat} {ret : Option FieldType} {hh : List (Nat × Nat × Nat × Nat)} {ws : List Cond} {rm : Room} {Pc : Array Value → State → Prop} {Qc : Array Value → State → Outcome → State → Prop} {free : Addr → Prop} {Ts : List Cond} {own C : String} {b : Addr} {As rest : List Value} {g : JFrame}
    (S : CallFix p m c cc nL s args Ts own) (hM : Met l y ws rm Pc Qc mc ms free) (cw : vx_CVW R s args own C index y bytes maxL ret hh ws rm mc ms n) (hp : PreV s H C b Pc As)
    (hg : g.method = m) (hn : As.length = n) (hsize : g.locals.size = nL) (hstack : g.stack = As.reverse ++ .ref b :: rest) (hW : 2 * g.monitorRoom + (rest.map fun v => v.category).sum ≤ 8) (hdg : decode cc g.pc = .ok (.invokevirtual index, 3)) (hf : cells + mc ≤ R.cells ∧ slots + ms ≤ R.slots) :
    va_Run p l e R s m args below meth c H locs cells slots mc ms g rest (Qc (Value.ref b :: As).toArray) free := by
  obtain ⟨⟨hrc, hrs, hfr, hlo, hws, hcw⟩, hcode, hini, hy, hlen, hl, hin, hse⟩ := cw
  have hK : Back l R p e below s args y 3 8 (PreOf R mc ms Pc) (PostOf Qc mc ms free) := va_backW (hh := hh) (bytes := bytes) (maxL := maxL) (ret := ret) hM hp.1 hrc hrs hfr hlo hws hcw (fun a' U hW => word_at hW (Or.inl (by first | rfl | simp [Cond.onTables, Cond.keeps, Cond.steady])) hini)
  obtain ⟨hx, hb, hml, ho, -⟩ := S
  obtain ⟨-, ⟨cellB, hcB, hoB, hclB⟩, hPc⟩ := hp
  intro T hT X
  obtain ⟨v, vm₁, ⟨U', l2, c2, s2⟩, hW₁, X', ⟨g', mk, t, L, e1, e2, hq, h1, hL, h2, h3⟩, st⟩ := vx_callVW X hx (C := C) (hh := hh) (bytes := bytes) (maxL := maxL) (ret := ret) ho hl hin hse hcode hy hK (by rw [hT]; exact hcB) hoB hclB hg (hsize.trans hml.symm) (argsL := As) (rest := rest) (fun sig h => hn.trans (hlen sig h)) hstack hW (by rw [hb]; exact hdg)
    (fun vm₁ hW₁ => ⟨hf.1, hf.2, hPc (T.setVm vm₁) hT hW₁⟩)
  dsimp only [Pt.U, Pt.locs, Pt.cells, Pt.slots] at X' e1 e2 h1 h2 h3 st
  subst h1; subst h2; subst h3
  exact ⟨v, (T.setVm vm₁).calling g' mk (Value.ref b :: As).toArray, t, U', L, hT, X', hL, e1, e2, hq, st⟩
section
variable {y : MethodName} {bytes cc : ByteArray} {maxL nL mc ms n index : Nat} {ret : Option FieldType} {ws : List Cond} {rm : Room} {Pc : Array Value → State → Prop} {Qc : Array Value → State → Outcome → State → Prop} {XC : String → State → State → Prop} {free : Addr → Prop} {Ts : List Cond} {own C : String} {b : Addr} {As rest : List Value} {g : JFrame}
theorem vx_runVX {hh : List (Nat × Nat × Nat × Nat)} (S : CallFix p m c cc nL s args Ts own) (hM : vx_Met l y ws rm Pc Qc XC mc ms free) (cw : vx_CVW R s args own C index y bytes maxL ret hh ws rm mc ms n) (hp : PreV s H C b Pc As)
    (hg : g.method = m) (hn : As.length = n) (hsize : g.locals.size = nL) (hstack : g.stack = As.reverse ++ .ref b :: rest) (hW : 2 * g.monitorRoom + (rest.map fun v => v.category).sum ≤ 8) (hdg : decode cc g.pc = .ok (.invokevirtual index, 3)) (hf : cells + mc ≤ R.cells ∧ slots + ms ≤ R.slots) :
    vx_Run p l e R s m args below meth c H locs cells slots mc ms g rest (Qc (Value.ref b :: As).toArray) XC free := by
  obtain ⟨⟨hrc, hrs, hfr, hlo, hws, hcw⟩, hcode, hini, hy, hlen, hl, hin, hse⟩ := cw
  have hK : vx_Back l R p e below s args y 3 8 (PreOf R mc ms Pc) (PostOf Qc mc ms free) (vx_Post XC mc ms free) := vx_backW (hh := hh) (bytes := bytes) (maxL := maxL) (ret := ret) hM hp.1 hrc hrs hfr hlo hws hcw (fun a' U hW => word_at hW (Or.inl (by first | rfl | simp [Cond.onTables, Cond.keeps, Cond.steady])) hini)
  obtain ⟨hx, hb, hml, ho, -⟩ := S
  obtain ⟨-, ⟨cellB, hcB, hoB, hclB⟩, hPc⟩ := hp
  intro T hT X
  rcases vx_callVX X hx (C := C) (hh := hh) (bytes := bytes) (maxL := maxL) (ret := ret) ho hl hin hse hcode hy hK (by rw [hT]; exact hcB) hoB hclB hg (hsize.trans hml.symm) (argsL := As) (rest := rest) (fun sig h => hn.trans (hlen sig h)) hstack hW (by rw [hb]; exact hdg)
    (fun vm₁ hW₁ => ⟨hf.1, hf.2, hPc (T.setVm vm₁) hT hW₁⟩) with ⟨v, vm₁, ⟨U', l2, c2, s2⟩, hW₁, X', ⟨g', mk, t, L, e1, e2, hq, h1, hL, h2, h3⟩, st⟩ | ⟨q, vm₁, ⟨U', l2, c2, s2⟩, hW₁, X', ⟨g', mk, t, L, E, ce, e1, e2, hq, hce, hcv, hcl, h1, hL, h2, h3⟩, st⟩
  · dsimp only [Pt.U, Pt.locs, Pt.cells, Pt.slots] at X' e1 e2 h1 h2 h3 st
    subst h1; subst h2; subst h3
    exact Or.inl ⟨v, (T.setVm vm₁).calling g' mk (Value.ref b :: As).toArray, t, U', L, hT, X', hL, e1, e2, hq, st⟩
  · dsimp only [Pt.U, Pt.locs, Pt.cells, Pt.slots] at X' e1 e2 h1 h2 h3 st hcl
    subst h1; subst h2; subst h3
    exact Or.inr ⟨q, (T.setVm vm₁).calling g' mk (Value.ref b :: As).toArray, t, U', L, E, ce, hT, X', hL, e1, e2, hq, hce, hcv, vx_cls hW₁ hcl, st⟩
theorem vx_runSX {hh : List (Nat × Nat × Nat × Nat)} (S : CallFix p m c cc nL s args Ts own) (hM : vx_Met l y ws rm Pc Qc XC mc ms free) (cw : vx_CSW R s args own index y bytes maxL ret hh ws rm mc ms n) (hp : PreS s H Pc As)
    (hg : g.method = m) (hn : As.length = n) (hsize : g.locals.size = nL) (hstack : g.stack = As.reverse ++ rest) (hW : 2 * g.monitorRoom + (rest.map fun v => v.category).sum ≤ 8) (hdg : decode cc g.pc = .ok (.invokestatic index, 3)) (hf : cells + mc ≤ R.cells ∧ slots + ms ≤ R.slots) :
    vx_Run p l e R s m args below meth c H locs cells slots mc ms g rest (Qc As.toArray) XC free := by
  obtain ⟨⟨hrc, hrs, hfr, hlo, hws, hcw⟩, hcode, hini, hy, hlen, hl, hstt⟩ := cw
  have hK : vx_Back l R p e below s args y 3 8 (PreOf R mc ms Pc) (PostOf Qc mc ms free) (vx_Post XC mc ms free) := vx_backW (hh := hh) (bytes := bytes) (maxL := maxL) (ret := ret) hM hp.1 hrc hrs hfr hlo hws hcw (fun a' U hW => word_at hW (Or.inl (by first | rfl | simp [Cond.onTables, Cond.keeps, Cond.steady])) hini)
  obtain ⟨hx, hb, hml, ho, -⟩ := S
  intro T hT X
  rcases vx_callSX X hx (hh := hh) (bytes := bytes) (maxL := maxL) (ret := ret) ho hl hstt hini hcode hy hK hg (hsize.trans hml.symm) (argsL := As) (rest := rest) (fun sig h => hn.trans (hlen sig h)) hstack hW (by rw [hb]; exact hdg)
    (fun vm₁ hW₁ => ⟨hf.1, hf.2, hp.2 (T.setVm vm₁) hT hW₁⟩) with ⟨v, vm₁, ⟨U', l2, c2, s2⟩, hW₁, X', ⟨g', mk, t, L, e1, e2, hq, h1, hL, h2, h3⟩, st⟩ | ⟨q, vm₁, ⟨U', l2, c2, s2⟩, hW₁, X', ⟨g', mk, t, L, E, ce, e1, e2, hq, hce, hcv, hcl, h1, hL, h2, h3⟩, st⟩
  · dsimp only [Pt.U, Pt.locs, Pt.cells, Pt.slots] at X' e1 e2 h1 h2 h3 st
    subst h1; subst h2; subst h3
    exact Or.inl ⟨v, (T.setVm vm₁).calling g' mk As.toArray, t, U', L, hT, X', hL, e1, e2, hq, st⟩
  · dsimp only [Pt.U, Pt.locs, Pt.cells, Pt.slots] at X' e1 e2 h1 h2 h3 st hcl
    subst h1; subst h2; subst h3
    exact Or.inr ⟨q, (T.setVm vm₁).calling g' mk As.toArray, t, U', L, E, ce, hT, X', hL, e1, e2, hq, hce, hcv, vx_cls hW₁ hcl, st⟩
end
end VXH
theorem vx_ofWH {l : Launch} {y : MethodName} {ws ws' : List Cond} {rm : Room} {Pc : Array Value → State → Prop} {Qc : Array Value → State → Outcome → State → Prop} {XC : String → State → State → Prop} {mc ms : Nat} {free : Addr → Prop} {cc : ByteArray} {maxL : Nat} {ret : Option FieldType} {hh : List (Nat × Nat × Nat × Nat)}
    (hy : plainName y.cls = true) (hw : ws = Cond.codeWith y cc maxL ret hh :: ws')
    (body : ∀ p e s m args below meth c s₁, BodyLoose p l y (headSpec ws rm) cc maxL ret e s m args below meth c s₁ → c.maxLocals = maxL → Pc args s →
      W p l e (headSpec ws rm).room s m args below meth c s.heap [] 0 0 (vx_MQ below Qc XC args s mc ms free) (entryFrame m args maxL)) : vx_Met l y ws rm Pc Qc XC mc ms free := by
  refine MetFree.of_bodyS (code := cc) (maxLocals := maxL) (ret := ret) hy ?_ ?_
  · intro args s m h hn
    obtain ⟨m9, meth, c, hn9, h1, h2, h3, h4, -, h5, h6, -⟩ := Cond.codeWith_spec (atoms_spec (ws := ws) h _ (by rw [hw]; exact List.mem_cons_self))
    cases hn.symm.trans hn9
    exact ⟨meth, c, h1, h2, h3, h4, h5, h6⟩
  · intro p e s m args below meth c s₁ B hml hP _
    have hh0 : s₁.heap = s.heap := by rw [B.state]; rfl
    obtain ⟨t, a1, o, b1, b2, b3⟩ := body p e s m args below meth c s₁ B hml hP s₁ hh0 (Stand.of_body B)
    exact ⟨t, o, a1, b1, b2, b3⟩
/-! ===== END ===== -/
end
section
/-! THE PURE MACHINE: what the bytecode does, as a function on a pure state. References are numbers of cells; '.retAddr' stands for the law's script. -/
/-- a cell: an array (its role's number, its length and contents) or an object (its class's number, its fields) -/
abbrev px_E : Type := (Nat × vp_A) ⊕ (Nat × List Value)
abbrev px_H : Type := List px_E
/-- what a place of the pool stands for: tag, two numbers, a constant -/
abbrev px_R : Type := Nat × Nat × Nat × Int
/-- a method: its name, bytes, locals, answer; its room; its class's number; its code, its pool -/
abbrev px_M : Type := MethodName × ByteArray × Nat × Option FieldType × Room × List (Nat × Nat × Instr) × List (Nat × px_R)
abbrev px_nm (M : px_M) : MethodName := M.1
abbrev px_by (M : px_M) : ByteArray := M.2.1
abbrev px_ml (M : px_M) : Nat := M.2.2.1
abbrev px_rt (M : px_M) : Option FieldType := M.2.2.2.1
abbrev px_rm (M : px_M) : Room := M.2.2.2.2.1
abbrev px_cd (M : px_M) : List (Nat × Nat × Instr) := M.2.2.2.2.2.1
abbrev px_cp (M : px_M) : List (Nat × px_R) := M.2.2.2.2.2.2
/-- a state in a method: pc, locals, stack, heap, cells and slots made so far -/
abbrev px_S : Type := Nat × List (Nat × Value) × List Value × px_H × Nat × Nat
abbrev px_A : Type := Option Value × px_H
def px_find {α : Type} (k : Nat) : List (Nat × α) → Option α
  | [] => none
  | q :: r => match Nat.beq q.1 k with
    | true => some q.2
    | false => px_find k r
def px_ii (f : Int32 → Int32 → Int32) : List Value → Option (List Value)
  | .int y :: .int x :: r => some (.int (f x y) :: r)
  | _ => none
def px_iiz (f : Int32 → Int32 → Int32) : List Value → Option (List Value)
  | .int y :: .int x :: r => if y = 0 then none else some (.int (f x y) :: r)
  | _ => none
def px_ll (f : Int64 → Int64 → Int64) : List Value → Option (List Value)
  | .long y :: .long x :: r => some (.long (f x y) :: r)
  | _ => none
def px_llz (f : Int64 → Int64 → Int64) : List Value → Option (List Value)
  | .long y :: .long x :: r => if y = 0 then none else some (.long (f x y) :: r)
  | _ => none
def px_li (f : Int64 → Int32 → Int64) : List Value → Option (List Value)
  | .int y :: .long x :: r => some (.long (f x y) :: r)
  | _ => none
def px_i1 (f : Int32 → Value) : List Value → Option (List Value)
  | .int x :: r => some (f x :: r)
  | _ => none
def px_l1 (f : Int64 → Value) : List Value → Option (List Value)
  | .long x :: r => some (f x :: r)
  | _ => none
def px_lc : List Value → Option (List Value)
  | .long y :: .long x :: r => some (.int (lg_cmp x y) :: r)
  | _ => none
def px_dup : List Value → Option (List Value)
  | a :: r => if a.category = 1 then some (a :: a :: r) else none
  | _ => none
def px_dup_x1 : List Value → Option (List Value)
  | a :: b :: r => if a.category = 1 ∧ b.category = 1 then some (a :: b :: a :: r) else none
  | _ => none
def px_dup_x2 : List Value → Option (List Value)
  | a :: b :: d :: r => if a.category = 1 ∧ b.category = 1 ∧ d.category = 1 then some (a :: b :: d :: a :: r) else none
  | _ => none
def px_dup2 : List Value → Option (List Value)
  | [] => none
  | a :: r => if a.category = 2 then some (a :: a :: r) else match r with
    | [] => none
    | b :: r => if a.category = 1 ∧ b.category = 1 then some (a :: b :: a :: b :: r) else none
def px_dup2_x1 : List Value → Option (List Value)
  | a :: b :: r => if a.category = 2 ∧ b.category = 1 then some (a :: b :: a :: r) else none
  | _ => none
def px_dup2_x2 : List Value → Option (List Value)
  | a :: b :: d :: r => if a.category = 2 ∧ b.category = 1 ∧ d.category = 1 then some (a :: b :: d :: a :: r) else none
  | _ => none
def px_pop : List Value → Option (List Value)
  | a :: r => if a.category = 1 then some r else none
  | _ => none
def px_pop2 : List Value → Option (List Value)
  | a :: r => if a.category = 2 then some r else none
  | _ => none
/-- what touches the stack alone -/
def px_alu (i : Instr) (st : List Value) : Option (List Value) :=
  match i with
  | .iconst n => some (.int (Int32.ofInt n) :: st)
  | .bipush n => some (.int (Int8.ofInt n).toInt32 :: st)
  | .sipush n => some (.int (Int16.ofInt n).toInt32 :: st)
  | .lconst n => some (.long (Int64.ofNat (n : Nat)) :: st)
  | .iadd => px_ii (fun x y => x + y) st
  | .isub => px_ii (fun x y => x - y) st
  | .imul => px_ii (fun x y => x * y) st
  | .iand => px_ii (fun x y => x &&& y) st
  | .ior => px_ii (fun x y => x ||| y) st
  | .ixor => px_ii (fun x y => x ^^^ y) st
  | .ishl => px_ii (fun x y => x <<< (y &&& 31)) st
  | .ishr => px_ii (fun x y => x >>> (y &&& 31)) st
  | .iushr => px_ii (fun x y => (x.toUInt32 >>> (y.toUInt32 &&& Int32.toUInt32 31)).toInt32) st
  | .idiv => px_iiz (fun x y => x / y) st
  | .irem => px_iiz (fun x y => x - x / y * y) st
  | .ladd => px_ll (fun x y => x + y) st
  | .lsub => px_ll (fun x y => x - y) st
  | .lmul => px_ll (fun x y => x * y) st
  | .land => px_ll (fun x y => x &&& y) st
  | .lor => px_ll (fun x y => x ||| y) st
  | .lxor => px_ll (fun x y => x ^^^ y) st
  | .ldiv => px_llz (fun x y => x / y) st
  | .lshl => px_li (fun x y => x <<< (y.toInt64 &&& 63)) st
  | .lshr => px_li (fun x y => x >>> (y.toInt64 &&& 63)) st
  | .lushr => px_li (fun x y => (x.toUInt64 >>> (y.toInt64.toUInt64 &&& Int64.toUInt64 63)).toInt64) st
  | .ineg => px_i1 (fun x => .int (-x)) st
  | .i2l => px_i1 (fun x => .long x.toInt64) st
  | .i2b => px_i1 (fun x => .int x.toInt8.toInt32) st
  | .i2s => px_i1 (fun x => .int x.toInt16.toInt32) st
  | .l2i => px_l1 (fun x => .int x.toInt32) st
  | .lcmp => px_lc st
  | .dup => px_dup st
  | .dup_x1 => px_dup_x1 st
  | .dup_x2 => px_dup_x2 st
  | .dup2 => px_dup2 st
  | .dup2_x1 => px_dup2_x1 st
  | .dup2_x2 => px_dup2_x2 st
  | .pop => px_pop st
  | .pop2 => px_pop2 st
  | _ => none
/-- Math.max and min, of ints and of longs -/
def px_math (w : Nat) (st : List Value) : Option (List Value) :=
  match w, st with
  | 0, .int y :: .int x :: r => some (.int (if x < y then y else x) :: r)
  | 1, .int y :: .int x :: r => some (.int (if y < x then y else x) :: r)
  | 2, .long y :: .long x :: r => some (.long (if y < x then x else y) :: r)
  | 3, .long y :: .long x :: r => some (.long (if y < x then y else x) :: r)
  | _, _ => none
def px_st1 (lv : List (Nat × Value)) (i : Nat) (v : Value) : List (Nat × Value) := (i, v) :: lv.filter (fun q => !(q.1 == i) && !(q.1 + 1 == i && q.2.category == 2))
def px_st2 (lv : List (Nat × Value)) (i : Nat) (v : Value) : List (Nat × Value) := (i, v) :: lv.filter (fun q => !(q.1 == i) && (!(q.1 == i + 1) && !(q.1 + 1 == i && q.2.category == 2)))
def px_cmp (c : ClassFile.Cond) (x y : Int32) : Bool :=
  match c with
  | .eq => decide (x = y)
  | .ne => decide (¬ x = y)
  | .lt => decide (x < y)
  | .ge => decide (y ≤ x)
  | .gt => decide (y < x)
  | .le => decide (x ≤ y)
def px_tgt (pc : Nat) (off : Int) : Nat := ((pc : Int) + off).toNat
/-- the roles of arrays: the type of their elements; the classes: slots, types of the fields -/
abbrev px_T : Type := List FieldType × List (Nat × List FieldType)
def px_inR (i : Int32) (n : Nat) : Bool := decide (0 ≤ i.toInt) && decide (i.toInt < n)
def px_dflt (n : Nat) (ty : FieldType) : Option vp_A :=
  match ty with
  | .int => some (n, .inl (fun _ => 0))
  | .boolean => some (n, .inl (fun _ => 0))
  | .long => some (n, .inr (.inl (fun _ => 0)))
  | .object _ => some (n, .inr (.inr (.inr (.inr (fun _ => none)))))
  | _ => none
def px_zr (ty : FieldType) (v : Int32) : Bool :=
  match ty with
  | .int => true
  | .boolean => decide (v = 0) || decide (v = 1)
  | _ => false
def px_fits (ty : FieldType) (v : Value) : Bool :=
  match ty, v with
  | .int, .int _ => true
  | .long, .long _ => true
  | .object _, .ref _ => true
  | .array _, .ref _ => true
  | _, _ => false
/-- reading an element -/
def px_ald (T : px_T) (X : Option (Nat × (Nat → Int32))) (i : Instr) (hp : px_H) (a : Value) (j : Int32) : Option Value :=
  match a with
  | .retAddr _ => match i, X with
    | .iaload, some X => match px_inR j X.1 with
      | true => some (.int (X.2 j.toNatClampNeg))
      | false => none
    | _, _ => none
  | .ref k => match hp[k]? with
    | some (.inl (t, n, f)) => match px_inR j n with
      | false => none
      | true => match i, T.1[t]?, f with
        | .iaload, some .int, .inl f => some (.int (f j.toNatClampNeg))
        | .baload, some .boolean, .inl f => some (.int (f j.toNatClampNeg))
        | .laload, some .long, .inr (.inl f) => some (.long (f j.toNatClampNeg))
        | .aaload, some (.object _), .inr (.inr (.inr (.inr f))) => match f j.toNatClampNeg with
          | some q => some (.ref q)
          | none => none
        | _, _, _ => none
    | _ => none
  | _ => none
/-- writing an element: the new heap -/
def px_ast (T : px_T) (i : Instr) (hp : px_H) (k : Nat) (j : Int32) (v : Value) : Option px_H :=
  match hp[k]? with
  | some (.inl (t, n, f)) => match px_inR j n with
    | false => none
    | true => match i, T.1[t]?, f, v with
      | .iastore, some .int, .inl f, .int x => some (hp.set k (.inl (t, n, .inl (upd f j.toNatClampNeg x))))
      | .bastore, some .boolean, .inl f, .int x => match decide (x = 0) || decide (x = 1) with
        | true => some (hp.set k (.inl (t, n, .inl (upd f j.toNatClampNeg x))))
        | false => none
      | .lastore, some .long, .inr (.inl f), .long x => some (hp.set k (.inl (t, n, .inr (.inl (vp_updL f j.toNatClampNeg x)))))
      | _, _, _, _ => none
  | _ => none
/-- one step: a new state, or the method's end -/
def px_step (T : px_T) (X : Option (Nat × (Nat → Int32))) (P : List px_M) (call : Nat → List Value → px_H → Option px_A) (M : px_M) (N0 : Nat) (s : px_S) : Option (px_S ⊕ px_A) :=
  match s with
  | (pc, lv, st, hp, nc, ns) =>
    match px_find pc (px_cd M) with
    | none => none
    | some (len, i) =>
      match px_alu i st with
      | some st' => some (.inl (pc + len, lv, st', hp, nc, ns))
      | none =>
        let ldi (j : Nat) : Option (px_S ⊕ px_A) := match px_find j lv with
          | some (.int x) => some (.inl (pc + len, lv, .int x :: st, hp, nc, ns))
          | _ => none
        let ldl (j : Nat) : Option (px_S ⊕ px_A) := match px_find j lv with
          | some (.long x) => some (.inl (pc + len, lv, .long x :: st, hp, nc, ns))
          | _ => none
        let lda (j : Nat) : Option (px_S ⊕ px_A) := match px_find j lv with
          | some (.ref x) => some (.inl (pc + len, lv, .ref x :: st, hp, nc, ns))
          | some (.retAddr x) => some (.inl (pc + len, lv, .retAddr x :: st, hp, nc, ns))
          | _ => none
        let sti (j : Nat) : Option (px_S ⊕ px_A) := match st with
          | .int x :: r => match decide (j < px_ml M) with
            | true => some (.inl (pc + len, px_st1 lv j (.int x), r, hp, nc, ns))
            | false => none
          | _ => none
        let sta (j : Nat) : Option (px_S ⊕ px_A) := match st with
          | .ref x :: r => match decide (j < px_ml M) with
            | true => some (.inl (pc + len, px_st1 lv j (.ref x), r, hp, nc, ns))
            | false => none
          | _ => none
        let stl (j : Nat) : Option (px_S ⊕ px_A) := match st with
          | .long x :: r => match decide (j + 1 < px_ml M) with
            | true => some (.inl (pc + len, px_st2 lv j (.long x), r, hp, nc, ns))
            | false => none
          | _ => none
        let br (c : Bool) (off : Int) (r : List Value) : Option (px_S ⊕ px_A) := match c with
          | true => some (.inl (px_tgt pc off, lv, r, hp, nc, ns))
          | false => some (.inl (pc + 3, lv, r, hp, nc, ns))
        let inv (n mi : Nat) : Option (px_S ⊕ px_A) := match P[mi]? with
          | none => none
          | some N => match decide (n ≤ st.length), decide (((st.drop n).map fun v => v.category).sum ≤ 8), decide (nc + (px_rm N).cells ≤ (px_rm M).cells), decide (ns + (px_rm N).slots ≤ (px_rm M).slots), decide ((px_rm N).cells = 0 ∨ hp.length = N0 + nc) with
            | true, true, true, true, true => match call mi (st.take n).reverse hp with
              | none => none
              | some (r, hp') => some (.inl (pc + 3, lv, r.toList ++ st.drop n, hp', nc + (px_rm N).cells, ns + (px_rm N).slots))
            | _, _, _, _, _ => none
        match i with
        | .iload j => ldi j
        | .iload_n j => ldi j
        | .lload j => ldl j
        | .lload_n j => ldl j
        | .aload j => lda j
        | .aload_n j => lda j
        | .istore j => sti j
        | .istore_n j => sti j
        | .astore j => sta j
        | .astore_n j => sta j
        | .lstore j => stl j
        | .lstore_n j => stl j
        | .iinc j n => match px_find j lv, decide (j < px_ml M) with
          | some (.int x), true => some (.inl (pc + len, px_st1 lv j (.int (x + Int32.ofInt n)), st, hp, nc, ns))
          | _, _ => none
        | .ifCond c off => match st with
          | .int x :: r => br (px_cmp c x 0) off r
          | _ => none
        | .if_icmp c off => match st with
          | .int y :: .int x :: r => br (px_cmp c x y) off r
          | _ => none
        | .goto off => some (.inl (px_tgt pc off, lv, st, hp, nc, ns))
        | .tableswitch dflt lo hi offs => match st with
          | .int x :: r => match decide (x.toInt < lo) || decide (hi < x.toInt) with
            | true => some (.inl (px_tgt pc dflt, lv, r, hp, nc, ns))
            | false => match offs[(x.toInt - lo).toNat]? with
              | some off => some (.inl (px_tgt pc off, lv, r, hp, nc, ns))
              | none => none
          | _ => none
        | .lookupswitch dflt ps => match st with
          | .int x :: r => match decide (0 ≤ (pc : Int) + Op.lookupswitch.offset ps.toList dflt x.toInt) with
            | true => some (.inl (px_tgt pc (Op.lookupswitch.offset ps.toList dflt x.toInt), lv, r, hp, nc, ns))
            | false => none
          | _ => none
        | .ldc idx => match px_find idx (px_cp M) with
          | some (3, _, _, v) => some (.inl (pc + len, lv, .int (Int32.ofInt v) :: st, hp, nc, ns))
          | _ => none
        | .ldc_w idx => match px_find idx (px_cp M) with
          | some (3, _, _, v) => some (.inl (pc + len, lv, .int (Int32.ofInt v) :: st, hp, nc, ns))
          | _ => none
        | .ldc2_w idx => match px_find idx (px_cp M) with
          | some (4, _, _, v) => some (.inl (pc + len, lv, .long (Int64.ofInt v) :: st, hp, nc, ns))
          | _ => none
        | .getfield idx => match px_find idx (px_cp M), st with
          | some (0, ci, k, _), .ref a :: r => match hp[a]? with
            | some (.inr (c, fs)) => match Nat.beq c ci, fs[k]? with
              | true, some v => some (.inl (pc + len, lv, v :: r, hp, nc, ns))
              | _, _ => none
            | _ => none
          | _, _ => none
        | .putfield idx => match px_find idx (px_cp M), st with
          | some (0, ci, k, fl), v :: .ref a :: r => match hp[a]?, T.2[ci]? with
            | some (.inr (c, fs)), some (_, tys) => match Nat.beq c ci, tys[k]?, decide (k < fs.length), decide (fl ≤ 2) with
              | true, some ty, true, true => match px_fits ty v with
                | true => some (.inl (pc + len, lv, r, hp.set a (.inr (ci, fs.set k v)), nc, ns))
                | false => none
              | _, _, _, _ => none
            | _, _ => none
          | _, _ => none
        | .arraylength => match st with
          | .retAddr _ :: r => match X with
            | some X => some (.inl (pc + len, lv, .int (Int32.ofNat X.1) :: r, hp, nc, ns))
            | none => none
          | .ref a :: r => match hp[a]? with
            | some (.inl (t, n, _)) => match T.1[t]? with
              | some _ => some (.inl (pc + len, lv, .int (Int32.ofNat n) :: r, hp, nc, ns))
              | none => none
            | _ => none
          | _ => none
        | .iaload => match st with
          | .int j :: a :: r => (px_ald T X i hp a j).map fun v => .inl (pc + len, lv, v :: r, hp, nc, ns)
          | _ => none
        | .baload => match st with
          | .int j :: a :: r => (px_ald T X i hp a j).map fun v => .inl (pc + len, lv, v :: r, hp, nc, ns)
          | _ => none
        | .laload => match st with
          | .int j :: a :: r => (px_ald T X i hp a j).map fun v => .inl (pc + len, lv, v :: r, hp, nc, ns)
          | _ => none
        | .aaload => match st with
          | .int j :: a :: r => (px_ald T X i hp a j).map fun v => .inl (pc + len, lv, v :: r, hp, nc, ns)
          | _ => none
        | .iastore => match st with
          | v :: .int j :: .ref a :: r => (px_ast T i hp a j v).map fun hp' => .inl (pc + len, lv, r, hp', nc, ns)
          | _ => none
        | .bastore => match st with
          | v :: .int j :: .ref a :: r => (px_ast T i hp a j v).map fun hp' => .inl (pc + len, lv, r, hp', nc, ns)
          | _ => none
        | .lastore => match st with
          | v :: .int j :: .ref a :: r => (px_ast T i hp a j v).map fun hp' => .inl (pc + len, lv, r, hp', nc, ns)
          | _ => none
        | .invokevirtual idx => match px_find idx (px_cp M) with
          | some (1, mi, n, ci) => match st[n]? with
            | some (.ref a) => match hp[a]? with
              | some (.inr (c, _)) => match Nat.beq c ci.toNat with
                | true => inv (n + 1) mi
                | false => none
              | _ => none
            | _ => none
          | _ => none
        | .invokestatic idx => match px_find idx (px_cp M) with
          | some (2, mi, n, _) => inv n mi
          | some (11, w, _, _) => match px_math w st, decide (((st.drop 2).map fun v => v.category).sum ≤ 8), decide (nc ≤ (px_rm M).cells), decide (ns ≤ (px_rm M).slots) with
            | some st', true, true, true => some (.inl (pc + 3, lv, st', hp, nc, ns))
            | _, _, _, _ => none
          | _ => none
        | .invokespecial idx => match px_find idx (px_cp M) with
          | some (7, _, _, _) => match st with
            | .ref _ :: r => match decide ((r.map fun v => v.category).sum ≤ 8) with
              | true => some (.inl (pc + 3, lv, r, hp, nc, ns))
              | false => none
            | _ => none
          | some (8, mi, n, _) => match st[n]? with
            | some (.ref _) => inv (n + 1) mi
            | _ => none
          | _ => none
        | .new idx => match px_find idx (px_cp M) with
          | some (5, ci, _, _) => match T.2[ci]? with
            | some (n, tys) => match decide (nc + 1 ≤ (px_rm M).cells), decide (ns + n ≤ (px_rm M).slots), decide (hp.length = N0 + nc) with
              | true, true, true => some (.inl (pc + 3, lv, .ref hp.length :: st, hp ++ [.inr (ci, tys.map defaultValue)], nc + 1, ns + n))
              | _, _, _ => none
            | none => none
          | _ => none
        | .newarray aty => match px_find (100000 + pc) (px_cp M), st with
          | some (6, t, _, _), .int n :: r => match T.1[t]?, decide (0 ≤ n.toInt), decide (n.toInt ≤ 100000), decide (nc + 1 ≤ (px_rm M).cells), decide (ns + n.toNatClampNeg ≤ (px_rm M).slots), decide (hp.length = N0 + nc) with
            | some ty, true, true, true, true, true => match decide (newarray.typeOf aty = ty), px_dflt n.toNatClampNeg ty with
              | true, some a0 => some (.inl (pc + 2, lv, .ref hp.length :: r, hp ++ [.inl (t, a0)], nc + 1, ns + n.toNatClampNeg))
              | _, _ => none
            | _, _, _, _, _, _ => none
          | _, _ => none
        | .anewarray idx => match px_find (100000 + pc) (px_cp M), px_find (300000 + idx) (px_cp M), st with
          | some (6, t, _, _), some (9, t', _, _), .int n :: r => match T.1[t]?, Nat.beq t t', decide (0 ≤ n.toInt), decide (n.toInt ≤ 100000), decide (nc + 1 ≤ (px_rm M).cells), decide (ns + n.toNatClampNeg ≤ (px_rm M).slots), decide (hp.length = N0 + nc) with
            | some (.object _), true, true, true, true, true, true => some (.inl (pc + 3, lv, .ref hp.length :: r, hp ++ [.inl (t, n.toNatClampNeg, .inr (.inr (.inr (.inr (fun _ => none)))))], nc + 1, ns + n.toNatClampNeg))
            | _, _, _, _, _, _, _ => none
          | _, _, _ => none
        | .aastore => match st with
          | .ref v :: .int j :: .ref a :: r => match hp[a]?, hp[v]? with
            | some (.inl (t, n, .inr (.inr (.inr (.inr f))))), some (.inr (ci, _)) => match px_inR j n, T.1[t]?, T.2[ci]? with
              | true, some (.object _), some _ => match px_find (200000 + t) (px_cp M) with
                | some (10, ci', t', _) => match Nat.beq ci ci' && Nat.beq t t' with
                  | true => some (.inl (pc + 1, lv, r, hp.set a (.inl (t, n, .inr (.inr (.inr (.inr (va_up f j.toNatClampNeg (some v))))))), nc, ns))
                  | false => none
                | _ => none
              | _, _, _ => none
            | _, _ => none
          | _ => none
        | .ireturn => match st, px_rt M, decide (nc ≤ (px_rm M).cells), decide (ns ≤ (px_rm M).slots) with
          | [.int v], some ty, true, true => match px_zr ty v with
            | true => some (.inr (some (.int v), hp))
            | false => none
          | _, _, _, _ => none
        | .lreturn => match st, px_rt M, decide (nc ≤ (px_rm M).cells), decide (ns ≤ (px_rm M).slots) with
          | [.long v], some .long, true, true => some (.inr (some (.long v), hp))
          | _, _, _, _ => none
        | .return_ => match st, px_rt M, decide (nc ≤ (px_rm M).cells), decide (ns ≤ (px_rm M).slots) with
          | [], none, true, true => some (.inr (none, hp))
          | _, _, _, _ => none
        | _ => none
def px_run (T : px_T) (X : Option (Nat × (Nat → Int32))) (P : List px_M) (call : Nat → List Value → px_H → Option px_A) (M : px_M) (N0 : Nat) : Nat → px_S → Option px_A
  | 0, _ => none
  | n + 1, s => match px_step T X P call M N0 s with
    | none => none
    | some (.inl s') => px_run T X P call M N0 n s'
    | some (.inr r) => some r
/-- a call; 'Spc' tells what the methods do that are proved otherwise -/
def px_call (T : px_T) (P : List px_M) (Spc : Nat → List Value → px_H → Option px_A) : Nat → Nat → List Value → px_H → Option px_A
  | 0, _, _, _ => none
  | n + 1, mi, av, hp => match Spc mi av hp with
    | some r => some r
    | none => match P[mi]? with
      | none => none
      | some M => match decide ((lg_sl av).length ≤ px_ml M) with
        | false => none
        | true => px_run T none P (px_call T P Spc n) M hp.length n (0, lv_args 0 av, [], hp, 0, 0)
end
section
/-! the pure world and the machine's: cell k lies at base + k, the script at b -/
def px_tr (base b : Nat) : Value → Value
  | .ref k => .ref (base + k)
  | .retAddr _ => .ref b
  | v => v
def px_trA (base : Nat) : vp_A → vp_A
  | (n, .inr (.inr (.inr (.inr f)))) => (n, .inr (.inr (.inr (.inr (fun j => (f j).map (fun q => base + q))))))
  | a => a
def px_trE (base b : Nat) (dA : Nat → ClassId) : px_E → va_E
  | .inl q => .inl (dA q.1, px_trA base q.2)
  | .inr q => .inr (q.1, q.2.map (px_tr base b))
def px_trH (base b : Nat) (dA : Nat → ClassId) (hp : px_H) : va_W := hp.mapIdx (fun k x => (base + k, px_trE base b dA x))
theorem px_cat (base b : Nat) (v : Value) : (px_tr base b v).category = v.category := by cases v <;> rfl
theorem px_trH_get {base b : Nat} {dA : Nat → ClassId} {hp : px_H} {k : Nat} {x : px_E} (h : hp[k]? = some x) : (px_trH base b dA hp)[k]? = some (base + k, px_trE base b dA x) := by
  simp [px_trH, List.getElem?_mapIdx, h]
theorem px_trH_set (base b : Nat) (dA : Nat → ClassId) (hp : px_H) (k : Nat) (x : px_E) : (px_trH base b dA hp).set k (base + k, px_trE base b dA x) = px_trH base b dA (hp.set k x) := by
  simp [px_trH, List.mapIdx_set]
theorem px_trH_push (base b : Nat) (dA : Nat → ClassId) (hp : px_H) (x : px_E) : px_trH base b dA (hp ++ [x]) = px_trH base b dA hp ++ [(base + hp.length, px_trE base b dA x)] := by
  simp [px_trH, List.mapIdx_append]
theorem px_trH_D (base b : Nat) (dA : Nat → ClassId) (hp : px_H) : va_D (fun q => base ≤ q) (px_trH base b dA hp) := by
  refine ⟨fun i j p q hi hj h => ?_, fun k q hk => ?_⟩
  · simp only [px_trH, List.getElem?_mapIdx, Option.map_eq_some_iff] at hi hj
    obtain ⟨x, -, rfl⟩ := hi
    obtain ⟨y, -, rfl⟩ := hj
    simp only at h
    omega
  · simp only [px_trH, List.getElem?_mapIdx, Option.map_eq_some_iff] at hk
    obtain ⟨x, -, rfl⟩ := hk
    simp only
    omega
theorem px_find_mem {α : Type} {k : Nat} {l : List (Nat × α)} {v : α} (h : px_find k l = some v) : (k, v) ∈ l := by
  induction l with
  | nil => cases h
  | cons q r ih =>
    unfold px_find at h
    split at h
    · rename_i hq
      cases h
      have := Nat.eq_of_beq_eq_true hq
      subst this
      exact List.mem_cons_self
    · exact List.mem_cons_of_mem _ (ih h)
abbrev px_trL (base b : Nat) (lv : List (Nat × Value)) : List (Nat × Value) := lv.map (fun q => (q.1, px_tr base b q.2))
theorem px_trL_find {base b j : Nat} {lv : List (Nat × Value)} {v : Value} {ls : Array Slot} {nL : Nat} (hl : lv_has ls nL (px_trL base b lv)) (h : px_find j lv = some v) : ls[j]? = some (.val (px_tr base b v)) :=
  hl.2.2 (j, px_tr base b v) (List.mem_map.mpr ⟨(j, v), px_find_mem h, rfl⟩)
theorem px_trL_mem {base b j : Nat} {lv : List (Nat × Value)} {v : Value} (h : px_find j lv = some v) : ∃ k : Nat, (px_trL base b lv)[k]? = some (j, px_tr base b v) :=
  List.getElem?_of_mem (List.mem_map.mpr ⟨(j, v), px_find_mem h, rfl⟩)
theorem px_trL_st1 (base b : Nat) (lv : List (Nat × Value)) (j : Nat) (v : Value) : (j, px_tr base b v) :: (px_trL base b lv).filter (fun q => !(q.1 == j) && !(q.1 + 1 == j && q.2.category == 2)) = px_trL base b (px_st1 lv j v) := by
  simp [px_trL, px_st1, List.filter_map, Function.comp_def, px_cat]
theorem px_trL_st2 (base b : Nat) (lv : List (Nat × Value)) (j : Nat) (v : Value) : (j, px_tr base b v) :: (px_trL base b lv).filter (fun q => !(q.1 == j) && (!(q.1 == j + 1) && !(q.1 + 1 == j && q.2.category == 2))) = px_trL base b (px_st2 lv j v) := by
  simp [px_trL, px_st2, List.filter_map, Function.comp_def, px_cat]
theorem px_lv_args (base b : Nat) : ∀ (vs : List Value) (i : Nat), lv_args i (vs.map (px_tr base b)) = px_trL base b (lv_args i vs) := by
  intro vs
  induction vs with
  | nil => intro i; rfl
  | cons v vs ih =>
    intro i
    simp only [List.map_cons, lv_args, px_cat, px_trL] at ih ⊢
    rw [ih]
theorem px_lg_sl (base b : Nat) (vs : List Value) : (lg_sl (vs.map (px_tr base b))).length = (lg_sl vs).length := by
  induction vs with
  | nil => rfl
  | cons v vs ih =>
    simp only [lg_sl, List.map_cons, List.flatMap_cons, List.length_append, px_cat] at ih ⊢
    rw [ih]
    split <;> simp
/-- the length of an instruction -/
def px_len (i : Instr) : Nat :=
  match i with
  | .bipush _ => 2
  | .sipush _ => 3
  | .iload _ => 2
  | .lload _ => 2
  | .aload _ => 2
  | .istore _ => 2
  | .lstore _ => 2
  | .astore _ => 2
  | .iinc _ _ => 3
  | .ifCond _ _ => 3
  | .if_icmp _ _ => 3
  | .goto _ => 3
  | .ldc _ => 2
  | .ldc_w _ => 3
  | .ldc2_w _ => 3
  | .getfield _ => 3
  | .putfield _ => 3
  | .invokevirtual _ => 3
  | .invokestatic _ => 3
  | .invokespecial _ => 3
  | .new _ => 3
  | .newarray _ => 2
  | .anewarray _ => 3
  | _ => 1
section px_s1
variable {p : Program} {l : Launch} {e : Env} {R : Room} {s : State} {m : MethodId} {args : Array Value} {below : List Frame} {meth : Method} {c : Code} {H : Heap} {locs : List Loc} {cells slots : Nat} {Q : State → Prop}
variable {cc : ByteArray} {pc len : Nat} {ls : Array Slot} {base b : Nat}
theorem px_ii_some {f : Int32 → Int32 → Int32} {st st' : List Value} (h : px_ii f st = some st') : ∃ x y r, st = .int y :: .int x :: r ∧ st' = .int (f x y) :: r := by
  unfold px_ii at h
  split at h
  · cases h; exact ⟨_, _, _, rfl, rfl⟩
  · cases h
theorem px_iiz_some {f : Int32 → Int32 → Int32} {st st' : List Value} (h : px_iiz f st = some st') : ∃ x y r, st = .int y :: .int x :: r ∧ st' = .int (f x y) :: r ∧ ¬ y = 0 := by
  unfold px_iiz at h
  split at h
  · split at h
    · cases h
    · cases h; exact ⟨_, _, _, rfl, rfl, by assumption⟩
  · cases h
theorem px_ll_some {f : Int64 → Int64 → Int64} {st st' : List Value} (h : px_ll f st = some st') : ∃ x y r, st = .long y :: .long x :: r ∧ st' = .long (f x y) :: r := by
  unfold px_ll at h
  split at h
  · cases h; exact ⟨_, _, _, rfl, rfl⟩
  · cases h
theorem px_llz_some {f : Int64 → Int64 → Int64} {st st' : List Value} (h : px_llz f st = some st') : ∃ x y r, st = .long y :: .long x :: r ∧ st' = .long (f x y) :: r ∧ ¬ y = 0 := by
  unfold px_llz at h
  split at h
  · split at h
    · cases h
    · cases h; exact ⟨_, _, _, rfl, rfl, by assumption⟩
  · cases h
theorem px_li_some {f : Int64 → Int32 → Int64} {st st' : List Value} (h : px_li f st = some st') : ∃ x y r, st = .int y :: .long x :: r ∧ st' = .long (f x y) :: r := by
  unfold px_li at h
  split at h
  · cases h; exact ⟨_, _, _, rfl, rfl⟩
  · cases h
theorem px_i1_some {f : Int32 → Value} {st st' : List Value} (h : px_i1 f st = some st') : ∃ x r, st = .int x :: r ∧ st' = f x :: r := by
  unfold px_i1 at h
  split at h
  · cases h; exact ⟨_, _, rfl, rfl⟩
  · cases h
theorem px_l1_some {f : Int64 → Value} {st st' : List Value} (h : px_l1 f st = some st') : ∃ x r, st = .long x :: r ∧ st' = f x :: r := by
  unfold px_l1 at h
  split at h
  · cases h; exact ⟨_, _, rfl, rfl⟩
  · cases h
theorem px_lc_some {st st' : List Value} (h : px_lc st = some st') : ∃ x y r, st = .long y :: .long x :: r ∧ st' = .int (lg_cmp x y) :: r := by
  unfold px_lc at h
  split at h
  · cases h; exact ⟨_, _, _, rfl, rfl⟩
  · cases h
set_option maxHeartbeats 4000000 in
theorem px_alu_sim (hx : p.tables.exec = Jvm.exec) (hb : c.code = cc) {i : Instr} (hd : decode cc pc = .ok (i, len)) (hlen : len = px_len i) {st st' : List Value} (ha : px_alu i st = some st')
    (k : W p l e R s m args below meth c H locs cells slots Q (F0 m (pc + len) ls (st'.map (px_tr base b)))) : W p l e R s m args below meth c H locs cells slots Q (F0 m pc ls (st.map (px_tr base b))) := by
  subst hlen
  cases i
  case iconst n => cases ha; exact lv_iconst hx hb hd rfl k
  case bipush n => cases ha; exact lv_bipush hx hb hd rfl k
  case sipush n => cases ha; exact lv_sipush hx hb hd rfl k
  case lconst n => cases ha; exact lv_lconst hx hb hd rfl k
  case iadd => obtain ⟨x, y, r, rfl, rfl⟩ := px_ii_some ha; exact lv_iadd hx hb hd k
  case isub => obtain ⟨x, y, r, rfl, rfl⟩ := px_ii_some ha; exact lv_isub hx hb hd k
  case imul => obtain ⟨x, y, r, rfl, rfl⟩ := px_ii_some ha; exact lv_imul hx hb hd k
  case iand => obtain ⟨x, y, r, rfl, rfl⟩ := px_ii_some ha; exact lv_iand hx hb hd k
  case ior => obtain ⟨x, y, r, rfl, rfl⟩ := px_ii_some ha; exact lv_ior hx hb hd k
  case ixor => obtain ⟨x, y, r, rfl, rfl⟩ := px_ii_some ha; exact lv_ixor hx hb hd k
  case ishl => obtain ⟨x, y, r, rfl, rfl⟩ := px_ii_some ha; exact lv_ishl hx hb hd k
  case ishr => obtain ⟨x, y, r, rfl, rfl⟩ := px_ii_some ha; exact lv_ishr hx hb hd k
  case iushr => obtain ⟨x, y, r, rfl, rfl⟩ := px_ii_some ha; exact lv_iushr hx hb hd rfl k
  case idiv => obtain ⟨x, y, r, rfl, rfl, hy⟩ := px_iiz_some ha; exact lv_idiv hx hb hd hy k
  case irem => obtain ⟨x, y, r, rfl, rfl, hy⟩ := px_iiz_some ha; exact lv_irem hx hb hd hy k
  case ladd => obtain ⟨x, y, r, rfl, rfl⟩ := px_ll_some ha; exact lv_ladd hx hb hd k
  case lsub => obtain ⟨x, y, r, rfl, rfl⟩ := px_ll_some ha; exact lv_lsub hx hb hd k
  case lmul => obtain ⟨x, y, r, rfl, rfl⟩ := px_ll_some ha; exact lv_lmul hx hb hd k
  case land => obtain ⟨x, y, r, rfl, rfl⟩ := px_ll_some ha; exact lv_land hx hb hd k
  case lor => obtain ⟨x, y, r, rfl, rfl⟩ := px_ll_some ha; exact lv_lor hx hb hd k
  case lxor => obtain ⟨x, y, r, rfl, rfl⟩ := px_ll_some ha; exact lv_lxor hx hb hd k
  case ldiv => obtain ⟨x, y, r, rfl, rfl, hy⟩ := px_llz_some ha; exact lv_ldiv hx hb hd hy k
  case lshl => obtain ⟨x, y, r, rfl, rfl⟩ := px_li_some ha; exact lv_lshl hx hb hd rfl k
  case lshr => obtain ⟨x, y, r, rfl, rfl⟩ := px_li_some ha; exact lv_lshr hx hb hd rfl k
  case lushr => obtain ⟨x, y, r, rfl, rfl⟩ := px_li_some ha; exact lv_lushr hx hb hd rfl k
  case ineg => obtain ⟨x, r, rfl, rfl⟩ := px_i1_some ha; exact lv_ineg hx hb hd k
  case i2l => obtain ⟨x, r, rfl, rfl⟩ := px_i1_some ha; exact lv_i2l hx hb hd rfl k
  case i2b => obtain ⟨x, r, rfl, rfl⟩ := px_i1_some ha; exact lv_i2b hx hb hd rfl k
  case i2s => obtain ⟨x, r, rfl, rfl⟩ := px_i1_some ha; exact lv_i2s hx hb hd rfl k
  case l2i => obtain ⟨x, r, rfl, rfl⟩ := px_l1_some ha; exact lv_l2i hx hb hd rfl k
  case lcmp => obtain ⟨x, y, r, rfl, rfl⟩ := px_lc_some ha; exact W.lcmp hx hb hd k
  case dup =>
    simp only [px_alu, px_dup] at ha
    split at ha
    · split at ha
      · cases ha
        exact lv_dup hx hb hd (by rw [px_cat]; assumption) k
      · cases ha
    · cases ha
  case dup_x1 =>
    simp only [px_alu, px_dup_x1] at ha
    split at ha
    · split at ha
      · rename_i h
        cases ha
        exact lv_dup_x1 hx hb hd (by rw [px_cat]; exact h.1) (by rw [px_cat]; exact h.2) k
      · cases ha
    · cases ha
  case dup_x2 =>
    simp only [px_alu, px_dup_x2] at ha
    split at ha
    · split at ha
      · rename_i h
        cases ha
        exact lv_dup_x2 hx hb hd (by rw [px_cat]; exact h.1) (by rw [px_cat]; exact h.2.1) (by rw [px_cat]; exact h.2.2) k
      · cases ha
    · cases ha
  case dup2 =>
    simp only [px_alu, px_dup2] at ha
    split at ha
    · cases ha
    · split at ha
      · cases ha
        exact lv_dup2_2 hx hb hd (by rw [px_cat]; assumption) k
      · split at ha
        · cases ha
        · split at ha
          · rename_i h
            cases ha
            exact lv_dup2_11 hx hb hd (by rw [px_cat]; exact h.1) (by rw [px_cat]; exact h.2) k
          · cases ha
  case dup2_x1 =>
    simp only [px_alu, px_dup2_x1] at ha
    split at ha
    · split at ha
      · rename_i h
        cases ha
        exact lv_dup2_x1_2 hx hb hd (by rw [px_cat]; exact h.1) (by rw [px_cat]; exact h.2) k
      · cases ha
    · cases ha
  case dup2_x2 =>
    simp only [px_alu, px_dup2_x2] at ha
    split at ha
    · split at ha
      · rename_i h
        cases ha
        exact lv_dup2_x2_2 hx hb hd (by rw [px_cat]; exact h.1) (by rw [px_cat]; exact h.2.1) (by rw [px_cat]; exact h.2.2) k
      · cases ha
    · cases ha
  case pop =>
    simp only [px_alu, px_pop] at ha
    split at ha
    · split at ha
      · cases ha
        exact lv_pop hx hb hd (by rw [px_cat]; assumption) k
      · cases ha
    · cases ha
  case pop2 =>
    simp only [px_alu, px_pop2] at ha
    split at ha
    · split at ha
      · cases ha
        exact lv_pop2_2 hx hb hd (by rw [px_cat]; assumption) k
      · cases ha
    · cases ha
  all_goals cases ha
end px_s1
end
section
/-! the static checks -/
def px_okI (pc len : Nat) (i : Instr) : Bool :=
  match i with
  | .ifCond _ off => decide (len = 3) && decide (0 ≤ (pc : Int) + off)
  | .if_icmp _ off => decide (len = 3) && decide (0 ≤ (pc : Int) + off)
  | .goto off => decide (len = 3) && decide (0 ≤ (pc : Int) + off)
  | .tableswitch dflt _ _ offs => decide (0 ≤ (pc : Int) + dflt) && offs.toList.all (fun off => decide (0 ≤ (pc : Int) + off))
  | .lookupswitch dflt ps => (ps.toList.zip (ps.toList.drop 1)).all (fun q => decide (q.1.1 < q.2.1)) && decide (0 ≤ (pc : Int) + dflt) && ps.toList.all (fun q => decide (0 ≤ (pc : Int) + q.2))
  | i => decide (len = px_len i)
def px_okC (M : px_M) : Bool := (px_cd M).all fun q => decide (decode (px_by M) q.1 = .ok (q.2.2, q.2.1)) && px_okI q.1 q.2.1 q.2.2
/-- a word by its code -/
abbrev px_Cw : Type := Nat × List Nat × Int
def px_mn (w : Nat) : MethodName :=
  match w with
  | 0 => Lib.Math.max.name
  | 1 => Lib.Math.min.name
  | 2 => Lib.MathLoose.max_long.x
  | _ => Lib.MathLoose.min_long.x
def px_w (ow : List String) (cl : List vw_C) (T : px_T) (P : List px_M) (host : String) (q : px_Cw) : Cond :=
  match q with
  | (0, [o, idx, ci, k], _) => match cl[ci]? with
    | some (_, F, _) => .fieldLink (ow.getD o "") idx (F k).1 (F k).2.1 (F k).2.2.1
    | none => .tt
  | (1, [o, idx, mi], _) => match P[mi]? with
    | some N => .methodLink (ow.getD o "") idx (px_nm N)
    | none => .tt
  | (2, [mi], _) => match P[mi]? with
    | some N => .code (px_nm N) (px_by N) (px_ml N) (px_rt N)
    | none => .tt
  | (3, [mi], _) => match P[mi]? with
    | some N => .instanceMethod (px_nm N)
    | none => .tt
  | (4, [mi], _) => match P[mi]? with
    | some N => .static (px_nm N)
    | none => .tt
  | (5, [mi], _) => match P[mi]? with
    | some N => .selects (px_nm N).cls (px_nm N) (px_nm N)
    | none => .tt
  | (6, [mi], _) => match P[mi]? with
    | some N => .initialized (px_nm N).cls
    | none => .tt
  | (7, [o, idx], v) => .constant (ow.getD o "") idx (Int32.ofInt v)
  | (8, [o, idx], v) => .constantLong (ow.getD o "") idx (Int64.ofInt v)
  | (9, [o, idx, ci], _) => match cl[ci]? with
    | some (C, _, _) => .classLink (ow.getD o "") idx C
    | none => .tt
  | (10, [ci], _) => match cl[ci]? with
    | some (C, _, N) => .instantiable C N
    | none => .tt
  | (11, [ci], _) => match cl[ci]? with
    | some (C, _, _) => .initialized C
    | none => .tt
  | (12, [t], _) => match T.1[t]? with
    | some ty => .arrayClass ty
    | none => .tt
  | (13, [o, idx], _) => .methodLink (ow.getD o "") idx objectInit
  | (14, [], _) => .instanceMethod objectInit
  | (15, [], _) => .code objectInit ⟨#[0xb1]⟩ 1 none
  | (16, [ci, k], _) => match cl[ci]? with
    | some (C, F, _) => u_lay C F k
    | none => .tt
  | (17, [o, idx, t], _) => match T.1[t]? with
    | some (.object C) => .classLink (ow.getD o "") idx C
    | _ => .tt
  | (22, [o, idx, w], _) => .methodLink (ow.getD o "") idx (px_mn w)
  | (23, [w], _) => .static (px_mn w)
  | (24, [0], _) => .code Lib.Math.max.name Lib.Math.max.code 2 (some .int)
  | (24, [1], _) => .code Lib.Math.min.name Lib.Math.min.code 2 (some .int)
  | (24, [2], _) => .code Lib.MathLoose.max_long.x Lib.MathLoose.max_long.code 4 (some .long)
  | (24, [3], _) => .code Lib.MathLoose.min_long.x Lib.MathLoose.min_long.code 4 (some .long)
  | (25, [], _) => .initialized "java/lang/Math"
  | (20, [o, idx, mi], _) => match P[mi]? with
    | some N => .methodLinkNest (ow.getD o "") idx (px_nm N) host
    | none => .tt
  | (21, [t], _) => match T.1[t]? with
    | some ty => .arrayOver ty
    | none => .tt
  | _ => .tt
/-- of each method: its kind (0 static, 1 instance, 2 constructor), its arguments, its class's number -/
def px_Mf (cl : List vw_C) (P : List px_M) (mf : List (Nat × Nat × Nat)) : Prop :=
  ∀ (mi : Nat) (N : px_M) (k n ci : Nat), P[mi]? = some N → mf[mi]? = some (k, n, ci) →
    ((px_nm N).cls ≠ "java/lang/invoke/MethodHandle" ∧ (px_nm N).cls ≠ "java/lang/invoke/VarHandle" ∧ (parseMethodDescriptor (px_nm N).desc).map (fun d => d.parameters.length) = some n) ∧
    (k = 1 → ∀ (C : String) (F : u_T) (N9 : Nat), cl[ci]? = some (C, F, N9) → C = (px_nm N).cls) ∧ (k = 2 → (px_nm N).name = "<init>" ∧ px_rt N = none ∧ ∀ (C : String) (F : u_T) (N9 : Nat), cl[ci]? = some (C, F, N9) → C = (px_nm N).cls)
/-- a callee's words and room, at this method -/
def px_okN (CW : List px_Cw) (mf : List (Nat × Nat × Nat)) (M N : px_M) (mi n k ci : Nat) : Bool :=
  match mf[mi]? with
  | some (k', n', ci') => Nat.beq k k' && Nat.beq n n' && (Nat.beq k 0 || Nat.beq ci ci') && decide (((2, [mi], 0) : px_Cw) ∈ CW) && decide (((6, [mi], 0) : px_Cw) ∈ CW)
    && decide ((px_rm N).frames + 1 ≤ (px_rm M).frames ∧ 8 + (px_ml N + 11) + (px_rm N).locals ≤ (px_rm M).locals)
  | none => false
def px_okR (cl : List vw_C) (T : px_T) (P : List px_M) (CW CE : List px_Cw) (mf : List (Nat × Nat × Nat)) (o kM cM : Nat) (M : px_M) (q : Nat × px_R) : Bool :=
  match q with
  | (idx, 0, ci, k, fl) => match cl[ci]? with
    | some (_, F, N) => decide (k < N) && decide (((0, [o, idx, ci, k], 0) : px_Cw) ∈ CW) && (decide (2 ≤ fl) || !(F k).2.2.2) && (!(decide (fl = 2)) || (Nat.beq kM 2 && Nat.beq cM ci))
    | none => false
  | (idx, 1, mi, n, ci) => match P[mi]? with
    | some N => px_okN CW mf M N mi n 1 ci.toNat && decide (((3, [mi], 0) : px_Cw) ∈ CW) && decide (((5, [mi], 0) : px_Cw) ∈ CW) && decide (((1, [o, idx, mi], 0) : px_Cw) ∈ CW)
    | none => false
  | (idx, 2, mi, n, _) => match P[mi]? with
    | some N => px_okN CW mf M N mi n 0 0 && decide (((4, [mi], 0) : px_Cw) ∈ CW) && (decide (((1, [o, idx, mi], 0) : px_Cw) ∈ CW) || decide (((20, [o, idx, mi], 0) : px_Cw) ∈ CE))
    | _ => false
  | (idx, 11, w, _, _) => decide (w < 4) && decide (((22, [o, idx, w], 0) : px_Cw) ∈ CW) && decide (((23, [w], 0) : px_Cw) ∈ CW) && decide (((24, [w], 0) : px_Cw) ∈ CW) && decide (((25, [], 0) : px_Cw) ∈ CW) && decide (1 ≤ (px_rm M).frames) && decide (23 ≤ (px_rm M).locals)
  | (idx, 3, _, _, v) => decide (((7, [o, idx], v) : px_Cw) ∈ CW)
  | (idx, 4, _, _, v) => decide (((8, [o, idx], v) : px_Cw) ∈ CW)
  | (idx, 5, ci, _, _) => decide (((9, [o, idx, ci], 0) : px_Cw) ∈ CW) && decide (((10, [ci], 0) : px_Cw) ∈ CW) && decide (((11, [ci], 0) : px_Cw) ∈ CW)
  | (_, 6, t, _, _) => match T.1[t]? with
    | some (.object _) => true
    | some _ => decide (((12, [t], 0) : px_Cw) ∈ CW)
    | none => false
  | (idx, 7, _, _, _) => decide (((13, [o, idx], 0) : px_Cw) ∈ CW) && decide (((14, [], 0) : px_Cw) ∈ CW) && decide (((15, [], 0) : px_Cw) ∈ CW) && decide (1 ≤ (px_rm M).frames) && decide (20 ≤ (px_rm M).locals)
  | (idx, 8, mi, n, v) => match P[mi]? with
    | some N => px_okN CW mf M N mi n 2 v.toNat && decide (((3, [mi], 0) : px_Cw) ∈ CW) && (decide (((1, [o, idx, mi], 0) : px_Cw) ∈ CW) || decide (((20, [o, idx, mi], 0) : px_Cw) ∈ CE))
    | _ => false
  | (idx, 9, t, _, _) => match T.1[t]? with
    | some (.object _) => decide (((17, [o, idx - 300000, t], 0) : px_Cw) ∈ CW) && decide (((21, [t], 0) : px_Cw) ∈ CE)
    | _ => false
  | (_, 10, ci, t, _) => match cl[ci]?, T.1[t]? with
    | some (C, _, _), some (.object C') => decide (C' = C)
    | _, _ => false
  | _ => false
def px_okM (cl : List vw_C) (T : px_T) (P : List px_M) (CW CE : List px_Cw) (mf : List (Nat × Nat × Nat)) (o kM cM : Nat) (M : px_M) : Bool := px_okC M && (px_cp M).all (px_okR cl T P CW CE mf o kM cM M)
/-- the classes: their field tables, types and words -/
def px_okK (cl : List vw_C) (T : px_T) (ALL : List Cond) : Prop :=
  ∀ (ci : Nat) (C : String) (F : u_T) (N : Nat), cl[ci]? = some (C, F, N) → ∃ tys : List FieldType, T.2[ci]? = some (N, tys) ∧ tys.length = N ∧ (∀ k, k < N → parseFieldDescriptor (F k).2.2.1 = some (tys.getD k .int)) ∧ (∀ a, a < N → ∀ b, b < N → a ≠ b → (F a).2.1 ≠ (F b).2.1) ∧ (∀ w ∈ u_ws C F N, w ∈ ALL) ∧ (∀ k, k < N → (F k).1 = C)
def px_tys (T : px_T) (dA : Nat → ClassId) : List (ClassId × FieldType) := T.1.mapIdx (fun t ty => (dA t, ty))
theorem px_tys_get {T : px_T} {dA : Nat → ClassId} {t : Nat} {ty : FieldType} (h : T.1[t]? = some ty) : (px_tys T dA)[t]? = some (dA t, ty) := by simp [px_tys, List.getElem?_mapIdx, h]
def px_ws (ALL : List Cond) (N : px_M) : List Cond := .code (px_nm N) (px_by N) (px_ml N) (px_rt N) :: ALL
def px_Rel (base b : Nat) (D : va_G) (cl : List vw_C) (dA : Nat → ClassId) (hp : px_H) (H : Heap) : Prop := va_P D cl (px_trH base b dA hp) H
/-- the words that warm otherwise than the tables' -/
def px_isX : Cond → Bool
  | .fieldLinkNest .. => true
  | .methodLinkNest .. => true
  | .arrayOver (.object _) => true
  | _ => false
def px_Ex (EXT : List Cond) (U : State) : Prop := ∀ w ∈ EXT, w.before #[] U = true
theorem px_Ex.moved {EXT : List Cond} (hE : ∀ w ∈ EXT, px_isX w = true) {s U : State} (hW : s.WarmedH U.vm) (h : px_Ex EXT s) : px_Ex EXT U := by
  intro w hw
  have h1 := h w hw
  have h2 := hE w hw
  unfold px_isX at h2
  split at h2
  · exact va_Nw.warmF hW h1
  · exact va_Nw.warmM hW h1
  · exact va_AO.moved hW.alike h1
  · cases h2
theorem px_Ex.same {EXT : List Cond} (hE : ∀ w ∈ EXT, px_isX w = true) {s U : State} (hvm : s.vm = U.vm) (h : px_Ex EXT s) : px_Ex EXT U := by
  intro w hw
  have h1 := h w hw
  have h2 := hE w hw
  unfold px_isX at h2
  split at h2
  · exact va_Nw.same rfl hvm h1
  · exact va_Nw.same rfl hvm h1
  · exact va_AO.moved (by rw [hvm]; exact Vm.Alike.refl U.vm) h1
  · cases h2
def px_Pc (EXT : List Cond) (base b : Nat) (D : va_G) (cl : List vw_C) (T : px_T) (dA : Nat → ClassId) (nc : Nat) (av : List Value) (hp : px_H) : Array Value → State → Prop := fun v U => v = (av.map (px_tr base b)).toArray ∧ px_Rel base b D cl dA hp U.heap ∧ va_K D cl (px_tys T dA) U ∧ px_Ex EXT U ∧ base ≤ U.heap.size ∧ (nc ≠ 0 → U.heap.size = base + hp.length)
def px_Qc (base b : Nat) (D : va_G) (cl : List vw_C) (dA : Nat → ClassId) (r : Option Value) (hp' : px_H) : Array Value → State → Outcome → State → Prop := fun _ st o t => o = .returned (r.map (px_tr base b)) ∧ px_Rel base b D cl dA hp' t.heap ∧ va_F (fun q => base ≤ q) st t
def px_Met (l : Launch) (base b : Nat) (D : va_G) (cl : List vw_C) (T : px_T) (dA : Nat → ClassId) (ALL EXT : List Cond) (N : px_M) (av : List Value) (hp : px_H) (r : Option Value) (hp' : px_H) : Prop :=
  Met l (px_nm N) (px_ws ALL N) (px_rm N) (px_Pc EXT base b D cl T dA (px_rm N).cells av hp) (px_Qc base b D cl dA r hp') (px_rm N).cells (px_rm N).slots (fun q => base ≤ q)
theorem px_blind {EXT : List Cond} (hEx : ∀ w ∈ EXT, px_isX w = true) (base b : Nat) (D : va_G) (cl : List vw_C) (T : px_T) (dA : Nat → ClassId) (nc : Nat) (av : List Value) (hp : px_H) : FrameBlind (px_Pc EXT base b D cl T dA nc av hp) := by
  intro a U g mk q
  obtain ⟨q0, q1, q2, q3, q4, q5⟩ := q
  exact ⟨q0, q1, va_K.moved (u := U) (U := U.calling g mk a) (Vm.Alike.refl U.vm) q2, px_Ex.same hEx (s := U) (U := U.calling g mk a) rfl q3, q4, q5⟩
section px_s2
variable {p : Program} {l : Launch} {e : Env} {R : Room} {s : State} {m : MethodId} {args : Array Value} {below : List Frame} {meth : Method} {c : Code} {H : Heap} {locs : List Loc} {cells slots : Nat} {Q : State → Prop}
variable {pc mc ms : Nat} {ls : Array Slot} {A : Nat → Prop} {H0 : Heap}
theorem px_W_size {g : JFrame} (h : H.size ≤ s.heap.size + cells → W p l e R s m args below meth c H locs cells slots Q g) : W p l e R s m args below meth c H locs cells slots Q g := fun T hT X => h (by rw [← hT]; exact X.heapSize) T hT X
theorem px_W_call {st0 rest : List Value} {Qa : State → Outcome → State → Prop} (hr : va_Run p l e R s m args below meth c H locs cells slots mc ms (F0 m pc ls st0) rest Qa A) (hS : va_S A H0 H locs)
    (hF : ∀ st o t, st.heap = H → Qa st o t → va_F A st t)
    (kk : ∀ (v : Option Value) (st t : State) (locs1 : List Loc), st.heap = H → Qa st (.returned v) t → va_S A H0 t.heap locs1 → W p l e R s m args below meth c t.heap locs1 (cells + mc) (slots + ms) Q (F0 m (pc + 3) ls (v.toList ++ rest))) : W p l e R s m args below meth c H locs cells slots Q (F0 m pc ls st0) := by
  intro T hT X
  obtain ⟨v, st₀, t, T', L, h0, X', hL, e1, e2, hQ, st⟩ := hr T hT X
  have hf := hF _ _ _ h0 hQ
  obtain ⟨hz, hk⟩ := hf
  rw [h0] at hz hk
  obtain ⟨t2, a1, b1⟩ := kk v st₀ t (locs ++ L) h0 hQ
    ⟨Nat.le_trans hS.1 hz, fun q h1 h2 => by rw [hk q (Nat.lt_of_lt_of_le h1 hS.1) h2]; exact hS.2.1 q h1 h2, fun q hq => by
      rcases List.mem_append.mp hq with h | h
      · exact hS.2.2 q h
      · exact hL q h⟩ T' e1 X'
  exact ⟨t2, st t2 a1, b1⟩
end px_s2
theorem px_split {st : List Value} {n : Nat} {v : Value} (h : st[n]? = some v) : st = st.take n ++ v :: st.drop (n + 1) := by
  obtain ⟨hlt, rfl⟩ := List.getElem?_eq_some_iff.mp h
  rw [← List.drop_eq_getElem_cons hlt, List.take_append_drop]
theorem px_args {st : List Value} {n a base b : Nat} (h : st[n]? = some (.ref a)) : (st.take (n + 1)).reverse.map (px_tr base b) = Value.ref (base + a) :: ((st.take n).reverse.map (px_tr base b)) := by
  rw [List.take_add_one, h]
  simp [px_tr]
theorem px_stack {st : List Value} {n a base b : Nat} (h : st[n]? = some (.ref a)) : st.map (px_tr base b) = ((st.take n).reverse.map (px_tr base b)).reverse ++ Value.ref (base + a) :: ((st.drop (n + 1)).map (px_tr base b)) := by
  conv => lhs; rw [px_split h]
  simp [px_tr]
theorem px_stackS {st : List Value} {n base b : Nat} : st.map (px_tr base b) = ((st.take n).reverse.map (px_tr base b)).reverse ++ ((st.drop n).map (px_tr base b)) := by
  conv => lhs; rw [← List.take_append_drop n st]
  simp
theorem px_len_take {st : List Value} {n base b : Nat} {v : Value} (h : st[n]? = some v) : ((st.take n).reverse.map (px_tr base b)).length = n := by
  have := (List.getElem?_eq_some_iff.mp h).1
  simp
  omega
theorem px_goodIn {ALL Ts : List Cond} {N : px_M} (hall : ∀ w ∈ ALL, w ∈ Ts) (hgood : ∀ w ∈ ALL, (w.onTables && w.keeps) = true ∨ ∃ ty, w = .arrayClass ty) (hc : Cond.code (px_nm N) (px_by N) (px_ml N) (px_rt N) ∈ ALL) : GoodIn Ts (px_ws ALL N) := by
  intro w hw
  rcases List.mem_cons.mp hw with rfl | h
  · exact ⟨hall _ hc, hgood _ hc⟩
  · exact ⟨hall _ h, hgood _ h⟩
theorem px_low {base b : Nat} {D : va_G} {cl : List vw_C} {dA : Nat → ClassId} {hp : px_H} {H : Heap} (hR : px_Rel base b D cl dA hp H) (hb : base ≤ H.size) : base + hp.length ≤ H.size := by
  rcases Nat.eq_zero_or_pos hp.length with h | h
  · omega
  · obtain ⟨x, hx⟩ : ∃ x, hp[hp.length - 1]? = some x := ⟨_, List.getElem?_eq_getElem (by omega)⟩
    have := (hR _ _ (px_trH_get hx)).lt
    simp only at this
    omega
theorem px_exact {base b : Nat} {D : va_G} {cl : List vw_C} {dA : Nat → ClassId} {hp : px_H} {H : Heap} {N0 nc : Nat} (hR : px_Rel base b D cl dA hp H) (hb : base ≤ H.size) (h : hp.length = N0 + nc) (hle : H.size ≤ base + N0 + nc) : H.size = base + hp.length := by
  have := px_low hR hb
  omega
theorem px_room {m : MethodId} {pc : Nat} {ls : Array Slot} {st0 rest : List Value} {base b : Nat} (h : (rest.map fun v => v.category).sum ≤ 8) : 2 * (F0 m pc ls st0).monitorRoom + ((rest.map (px_tr base b)).map fun v => v.category).sum ≤ 8 := by
  have e : (rest.map (px_tr base b)).map (fun v => v.category) = rest.map (fun v => v.category) := by
    rw [List.map_map]
    exact List.map_congr_left (fun v _ => px_cat base b v)
  rw [e]
  exact lv_room h
theorem px_ret (base b : Nat) (r : Option Value) (st : List Value) : (r.map (px_tr base b)).toList ++ st.map (px_tr base b) = (r.toList ++ st).map (px_tr base b) := by
  cases r <;> rfl
end
section
theorem px_tgt_ok {pc : Nat} {off : Int} (h : 0 ≤ (pc : Int) + off) : (pc : Int) + off = ((px_tgt pc off : Nat) : Int) := by
  unfold px_tgt
  omega
theorem px_alu_len {i : Instr} {st st' : List Value} {pc len : Nat} (h : px_alu i st = some st') (ho : px_okI pc len i = true) : len = px_len i := by
  cases i <;> first | (simpa [px_okI] using ho) | (simp [px_alu] at h)
theorem px_inR_in {j : Int32} {n : Nat} (h : px_inR j n = true) : vp_in j n := by
  rw [vp_in_iff]
  simpa [px_inR] using h
theorem px_fits_ok {ty : FieldType} {v : Value} (base b : Nat) (h : px_fits ty v = true) : narrow ty (px_tr base b v) = px_tr base b v ∧ fits ty (px_tr base b v) = true := by
  unfold px_fits at h
  split at h
  · exact ⟨rfl, rfl⟩
  · exact ⟨rfl, rfl⟩
  · exact ⟨rfl, rfl⟩
  · exact ⟨rfl, rfl⟩
  · cases h
theorem px_getD {α : Type} {l : List α} {k : Nat} {d v : α} (h : l[k]? = some v) : l.getD k d = v := by
  rw [List.getD_eq_getElem?_getD, h]
  rfl
theorem px_trA_fst (base : Nat) (a : vp_A) : (px_trA base a).1 = a.1 := by
  unfold px_trA
  split <;> rfl
theorem px_eqr {R : Room} {s : State} {args : Array Value} {own : String} {index : Nat} {y : MethodName} {bytes : ByteArray} {maxL : Nat} {ret : Option FieldType} {ws : List Cond} {rm : Room} {mc ms n : Nat} (h : ret = none) (k : CallB R s args own index y bytes maxL ret ws rm mc ms n) : CallB R s args own index y bytes maxL none ws rm mc ms n := by subst h; exact k
theorem px_eqn {R : Room} {s : State} {args : Array Value} {own host : String} {index : Nat} {y : MethodName} {bytes : ByteArray} {maxL : Nat} {ret : Option FieldType} {ws : List Cond} {rm : Room} {mc ms n : Nat} (h : ret = none) (k : va_CN R s args own index y host bytes maxL ret ws rm mc ms n) : va_CN R s args own index y host bytes maxL none ws rm mc ms n := by subst h; exact k
theorem px_dv (base b : Nat) (tys : List FieldType) (j : Nat) (h : j < tys.length) : defaultValue (tys.getD j .int) = vp_V ((tys.map defaultValue).map (px_tr base b)) j := by
  have e : ∀ ty : FieldType, px_tr base b (defaultValue ty) = defaultValue ty := by intro ty; cases ty <;> rfl
  simp [vp_V, List.getD_eq_getElem?_getD, h, e]
theorem px_dflt_ok {base n : Nat} {ty : FieldType} {a0 : vp_A} (h : px_dflt n ty = some a0) : (∀ cA : ClassId, vp_cell cA (px_trA base a0) = arrV cA n (fun _ => defaultValue ty)) ∧ a0.1 = n ∧ True := by
  unfold px_dflt at h
  split at h
  · cases h; exact ⟨fun _ => rfl, rfl, trivial⟩
  · cases h; exact ⟨fun _ => rfl, rfl, trivial⟩
  · cases h; exact ⟨fun _ => rfl, rfl, trivial⟩
  · cases h; exact ⟨fun _ => rfl, rfl, trivial⟩
  · cases h
theorem px_clamp {n : Int32} (h0 : 0 ≤ n.toInt) (h1 : n.toInt ≤ 100000) : n.toNatClampNeg ≤ 100000 := by
  have : n.toNatClampNeg = n.toInt.toNat := rfl
  omega
def px_prim (ty : FieldType) : Bool :=
  match ty with
  | .object _ => false
  | _ => true
theorem px_RA {U : State} {cA : ClassId} {ty : FieldType} (hp : px_prim ty = true) (h : va_RA U cA ty) : U.vm.findClass ("[" ++ ty.toString) = some cA := by
  cases ty <;> first | exact h | cases hp
theorem px_upq (base : Nat) (f : Nat → Option Nat) (k v : Nat) : (fun j => (va_up f k (some v) j).map (fun q => base + q)) = va_up (fun j => (f j).map (fun q => base + q)) k (some (base + v)) := by
  funext j
  unfold va_up
  split <;> rfl
theorem px_cb (ty : FieldType) : componentBytes ty ≤ 8 := by cases ty <;> simp [componentBytes]
section px_s3
variable {p : Program} {l : Launch} {e : Env} {R : Room} {s : State} {m : MethodId} {args : Array Value} {below : List Frame} {meth : Method} {c : Code} {H : Heap} {locs : List Loc} {Q : State → Prop}
variable {base b : Nat} {D : va_G} {cl : List vw_C} {T : px_T} {dA : Nat → ClassId} {P : List px_M} {ALL EXT Ts : List Cond} {ow : List String} {CW CE : List px_Cw} {mf : List (Nat × Nat × Nat)} {o kM cM : Nat} {host : String} {M : px_M} {X : Option (Nat × (Nat → Int32))} {call : Nat → List Value → px_H → Option px_A}
variable {pc nc ns N0 : Nat} {lv : List (Nat × Value)} {st : List Value} {hp : px_H} {s' : px_S} {ls : Array Slot} {H0 : Heap}
set_option maxHeartbeats 8000000 in
set_option maxRecDepth 10000 in
/-- one step of the pure machine is a step of the machine -/
theorem px_sim (hx : p.tables.exec = Jvm.exec) (hb : c.code = px_by M) (hml : c.maxLocals = px_ml M) (hown : s.vm.findClass (px_nm M).cls = some m.cls) (hts : ∀ w ∈ Ts, w.before args s = true) (hK : va_K D cl (px_tys T dA) s) (hE : px_Ex EXT s) (hEx : ∀ w ∈ EXT, px_isX w = true) (hnm : kM = 2 → meth.name = (px_nm M).name)
    (hok : px_okM cl T P CW CE mf o kM cM M = true) (hCW : ∀ q ∈ CW, px_w ow cl T P host q ∈ ALL) (hCE : ∀ q ∈ CE, px_w ow cl T P host q ∈ EXT) (ho : ow.getD o "" = (px_nm M).cls) (hmf : px_Mf cl P mf) (hkM : kM = 2 → (px_nm M).name = "<init>" ∧ ∀ (C : String) (F : u_T) (N9 : Nat), cl[cM]? = some (C, F, N9) → C = (px_nm M).cls) (hokK : px_okK cl T ALL) (hokL : ∀ ci : Nat, cl[ci]? = none → T.2[ci]? = none) (hall : ∀ w ∈ ALL, w ∈ Ts) (hgood : ∀ w ∈ ALL, (w.onTables && w.keeps) = true ∨ ∃ ty, w = .arrayClass ty) (hRM : R = px_rm M)
    (hcall : ∀ mi N av hp r hp', P[mi]? = some N → call mi av hp = some (r, hp') → px_Met l base b D cl T dA ALL EXT N av hp r hp')
    (hX : ∀ x, X = some x → va_X b x.1 x.2 s H0 ∧ b < H0.size ∧ b < base) (hbase : base ≤ H0.size) (hN0 : (px_rm M).cells ≠ 0 → s.heap.size = base + N0)
    (hs : px_step T X P call M N0 (pc, lv, st, hp, nc, ns) = some (.inl s')) (hR : px_Rel base b D cl dA hp H) (hS : va_S (fun q => base ≤ q) H0 H locs) (hl : lv_has ls (px_ml M) (px_trL base b lv))
    (kk : ∀ (H' : Heap) (locs' : List Loc) (ls' : Array Slot), px_Rel base b D cl dA s'.2.2.2.1 H' → va_S (fun q => base ≤ q) H0 H' locs' → lv_has ls' (px_ml M) (px_trL base b s'.2.1) →
      W p l e R s m args below meth c H' locs' s'.2.2.2.2.1 s'.2.2.2.2.2 Q (F0 m s'.1 ls' (s'.2.2.1.map (px_tr base b)))) :
    W p l e R s m args below meth c H locs nc ns Q (F0 m pc ls (st.map (px_tr base b))) := by
  have hokC : px_okC M = true := by
    have := hok
    simp only [px_okM, Bool.and_eq_true] at this
    exact this.1
  have hokP : ∀ q ∈ px_cp M, px_okR cl T P CW CE mf o kM cM M q = true := by
    have := hok
    simp only [px_okM, Bool.and_eq_true, List.all_eq_true] at this
    exact this.2
  have hal : ∀ q ∈ CW, px_w ow cl T P host q ∈ Ts := fun w h => hall _ (hCW w h)
  have hA : ∀ q, H0.size ≤ q → base ≤ q := fun q h => Nat.le_trans hbase h
  have hD := px_trH_D base b dA hp
  simp only [px_step] at hs
  split at hs
  · cases hs
  rename_i len i hf
  have hI := List.all_eq_true.mp hokC _ (px_find_mem hf)
  simp only [Bool.and_eq_true, decide_eq_true_eq] at hI
  obtain ⟨hd, hoi⟩ := hI
  split at hs
  · rename_i st' ha
    cases hs
    exact px_alu_sim hx hb hd (px_alu_len ha hoi) ha (kk H locs ls hR hS hl)
  rename_i ha
  cases i
  case iload j =>
    have hlen : len = 2 := of_decide_eq_true hoi
    subst hlen
    simp only at hs
    split at hs
    · rename_i x hj
      cases hs
      exact lv_iload hx hb hd (px_trL_find hl hj) (kk H locs ls hR hS hl)
    · cases hs
  case iload_n j =>
    have hlen : len = 1 := of_decide_eq_true hoi
    subst hlen
    simp only at hs
    split at hs
    · rename_i x hj
      cases hs
      exact lv_iload_n hx hb hd rfl (px_trL_find hl hj) (kk H locs ls hR hS hl)
    · cases hs
  case lload j =>
    have hlen : len = 2 := of_decide_eq_true hoi
    subst hlen
    simp only at hs
    split at hs
    · rename_i x hj
      cases hs
      exact lv_lload hx hb hd (px_trL_find hl hj) (kk H locs ls hR hS hl)
    · cases hs
  case lload_n j =>
    have hlen : len = 1 := of_decide_eq_true hoi
    subst hlen
    simp only at hs
    split at hs
    · rename_i x hj
      cases hs
      exact lv_lload_n hx hb hd rfl (px_trL_find hl hj) (kk H locs ls hR hS hl)
    · cases hs
  case aload j =>
    have hlen : len = 2 := of_decide_eq_true hoi
    subst hlen
    simp only at hs
    split at hs
    · rename_i x hj
      cases hs
      exact lv_aload hx hb hd (px_trL_find hl hj) (kk H locs ls hR hS hl)
    · rename_i x hj
      cases hs
      exact lv_aload hx hb hd (px_trL_find hl hj) (kk H locs ls hR hS hl)
    · cases hs
  case aload_n j =>
    have hlen : len = 1 := of_decide_eq_true hoi
    subst hlen
    simp only at hs
    split at hs
    · rename_i x hj
      cases hs
      exact lv_aload_n hx hb hd rfl (px_trL_find hl hj) (kk H locs ls hR hS hl)
    · rename_i x hj
      cases hs
      exact lv_aload_n hx hb hd rfl (px_trL_find hl hj) (kk H locs ls hR hS hl)
    · cases hs
  case istore j =>
    have hlen : len = 2 := of_decide_eq_true hoi
    subst hlen
    simp only at hs
    split at hs
    · rename_i x r
      split at hs
      · rename_i hj
        cases hs
        exact lv_istore hx hb hd hl (of_decide_eq_true hj) (px_trL_st1 base b lv j (.int x)) (fun ls' hl' => kk H locs ls' hR hS hl')
      · cases hs
    · cases hs
  case istore_n j =>
    have hlen : len = 1 := of_decide_eq_true hoi
    subst hlen
    simp only at hs
    split at hs
    · rename_i x r
      split at hs
      · rename_i hj
        cases hs
        exact lv_istore_n hx hb hd rfl hl (of_decide_eq_true hj) (px_trL_st1 base b lv j (.int x)) (fun ls' hl' => kk H locs ls' hR hS hl')
      · cases hs
    · cases hs
  case astore j =>
    have hlen : len = 2 := of_decide_eq_true hoi
    subst hlen
    simp only at hs
    split at hs
    · rename_i x r
      split at hs
      · rename_i hj
        cases hs
        exact lv_astore hx hb hd hl (of_decide_eq_true hj) (px_trL_st1 base b lv j (.ref x)) (fun ls' hl' => kk H locs ls' hR hS hl')
      · cases hs
    · cases hs
  case astore_n j =>
    have hlen : len = 1 := of_decide_eq_true hoi
    subst hlen
    simp only at hs
    split at hs
    · rename_i x r
      split at hs
      · rename_i hj
        cases hs
        exact lv_astore_n hx hb hd rfl hl (of_decide_eq_true hj) (px_trL_st1 base b lv j (.ref x)) (fun ls' hl' => kk H locs ls' hR hS hl')
      · cases hs
    · cases hs
  case lstore j =>
    have hlen : len = 2 := of_decide_eq_true hoi
    subst hlen
    simp only at hs
    split at hs
    · rename_i x r
      split at hs
      · rename_i hj
        cases hs
        exact lv_lstore hx hb hd hl (of_decide_eq_true hj) (px_trL_st2 base b lv j (.long x)) (fun ls' hl' => kk H locs ls' hR hS hl')
      · cases hs
    · cases hs
  case lstore_n j =>
    have hlen : len = 1 := of_decide_eq_true hoi
    subst hlen
    simp only at hs
    split at hs
    · rename_i x r
      split at hs
      · rename_i hj
        cases hs
        exact lv_lstore_n hx hb hd rfl hl (of_decide_eq_true hj) (px_trL_st2 base b lv j (.long x)) (fun ls' hl' => kk H locs ls' hR hS hl')
      · cases hs
    · cases hs
  case iinc j n =>
    have hlen : len = 3 := of_decide_eq_true hoi
    subst hlen
    simp only at hs
    split at hs
    · rename_i x hj1 hj
      cases hs
      obtain ⟨k, hk⟩ := px_trL_mem (base := base) (b := b) hj1
      exact lv_iinc hx hb hd hl hk rfl (of_decide_eq_true hj) (px_trL_st1 base b lv j (.int (x + Int32.ofInt n))) (fun ls' hl' => kk H locs ls' hR hS hl')
    · cases hs
  case ifCond cd off =>
    simp only [px_okI, Bool.and_eq_true, decide_eq_true_eq] at hoi
    obtain ⟨rfl, ho⟩ := hoi
    simp only at hs
    split at hs
    · rename_i x r
      cases cd
      · refine lv_if_eq hx hb hd (px_tgt_ok ho) (fun h => ?_) (fun h => ?_)
        · simp only [px_cmp, h, decide_true] at hs; cases hs; exact kk H locs ls hR hS hl
        · simp only [px_cmp, h, decide_false] at hs; cases hs; exact kk H locs ls hR hS hl
      · refine lv_if_ne hx hb hd (px_tgt_ok ho) (fun h => ?_) (fun h => ?_)
        · simp only [px_cmp, h, not_false_eq_true, decide_true] at hs; cases hs; exact kk H locs ls hR hS hl
        · simp only [px_cmp, h, decide_false] at hs; cases hs; exact kk H locs ls hR hS hl
      · refine lv_if_lt hx hb hd (px_tgt_ok ho) (fun h => ?_) (fun h => ?_)
        · simp only [px_cmp, h, decide_true] at hs; cases hs; exact kk H locs ls hR hS hl
        · simp only [px_cmp, h, decide_false] at hs; cases hs; exact kk H locs ls hR hS hl
      · refine lv_if_ge hx hb hd (px_tgt_ok ho) (fun h => ?_) (fun h => ?_)
        · simp only [px_cmp, h, decide_true] at hs; cases hs; exact kk H locs ls hR hS hl
        · simp only [px_cmp, h, decide_false] at hs; cases hs; exact kk H locs ls hR hS hl
      · refine lv_if_gt hx hb hd (px_tgt_ok ho) (fun h => ?_) (fun h => ?_)
        · simp only [px_cmp, h, decide_true] at hs; cases hs; exact kk H locs ls hR hS hl
        · simp only [px_cmp, h, decide_false] at hs; cases hs; exact kk H locs ls hR hS hl
      · refine lv_if_le hx hb hd (px_tgt_ok ho) (fun h => ?_) (fun h => ?_)
        · simp only [px_cmp, h, decide_true] at hs; cases hs; exact kk H locs ls hR hS hl
        · simp only [px_cmp, h, decide_false] at hs; cases hs; exact kk H locs ls hR hS hl
    · cases hs
  case if_icmp cd off =>
    simp only [px_okI, Bool.and_eq_true, decide_eq_true_eq] at hoi
    obtain ⟨rfl, ho⟩ := hoi
    simp only at hs
    split at hs
    · rename_i x r
      cases cd
      · refine lv_icmp_eq hx hb hd (px_tgt_ok ho) (fun h => ?_) (fun h => ?_)
        · simp only [px_cmp, h, decide_true] at hs; cases hs; exact kk H locs ls hR hS hl
        · simp only [px_cmp, h, decide_false] at hs; cases hs; exact kk H locs ls hR hS hl
      · refine lv_icmp_ne hx hb hd (px_tgt_ok ho) (fun h => ?_) (fun h => ?_)
        · simp only [px_cmp, h, not_false_eq_true, decide_true] at hs; cases hs; exact kk H locs ls hR hS hl
        · simp only [px_cmp, h, decide_false] at hs; cases hs; exact kk H locs ls hR hS hl
      · refine lv_icmp_lt hx hb hd (px_tgt_ok ho) (fun h => ?_) (fun h => ?_)
        · simp only [px_cmp, h, decide_true] at hs; cases hs; exact kk H locs ls hR hS hl
        · simp only [px_cmp, h, decide_false] at hs; cases hs; exact kk H locs ls hR hS hl
      · refine lv_icmp_ge hx hb hd (px_tgt_ok ho) (fun h => ?_) (fun h => ?_)
        · simp only [px_cmp, h, decide_true] at hs; cases hs; exact kk H locs ls hR hS hl
        · simp only [px_cmp, h, decide_false] at hs; cases hs; exact kk H locs ls hR hS hl
      · refine lv_icmp_gt hx hb hd (px_tgt_ok ho) (fun h => ?_) (fun h => ?_)
        · simp only [px_cmp, h, decide_true] at hs; cases hs; exact kk H locs ls hR hS hl
        · simp only [px_cmp, h, decide_false] at hs; cases hs; exact kk H locs ls hR hS hl
      · refine lv_icmp_le hx hb hd (px_tgt_ok ho) (fun h => ?_) (fun h => ?_)
        · simp only [px_cmp, h, decide_true] at hs; cases hs; exact kk H locs ls hR hS hl
        · simp only [px_cmp, h, decide_false] at hs; cases hs; exact kk H locs ls hR hS hl
    · cases hs
  case goto off =>
    simp only [px_okI, Bool.and_eq_true, decide_eq_true_eq] at hoi
    obtain ⟨rfl, ho⟩ := hoi
    cases hs
    exact lv_goto hx hb hd (px_tgt_ok ho) (kk H locs ls hR hS hl)
  case tableswitch dflt lo hi offs =>
    simp only [px_okI, Bool.and_eq_true, decide_eq_true_eq, List.all_eq_true] at hoi
    simp only at hs
    split at hs
    · rename_i x r
      split at hs
      · rename_i h
        cases hs
        exact lv_tableOut hx hb hd (by simpa using h) (px_tgt_ok hoi.1) (kk H locs ls hR hS hl)
      · rename_i h
        split at hs
        · rename_i off ho
          cases hs
          have h2 : ¬ x.toInt < lo ∧ ¬ hi < x.toInt := by simpa using h
          exact lv_tableIn hx hb hd h2.1 h2.2 ho (px_tgt_ok (hoi.2 off (Array.mem_toList_iff.mpr (Array.mem_of_getElem? ho)))) (kk H locs ls hR hS hl)
        · cases hs
    · cases hs
  case lookupswitch dflt ps =>
    simp only [px_okI, Bool.and_eq_true, decide_eq_true_eq] at hoi
    simp only at hs
    split at hs
    · rename_i x r
      split at hs
      · rename_i ho
        cases hs
        exact lv_lookup hx hb hd hoi.1.1 rfl (px_tgt_ok (of_decide_eq_true ho)) (kk H locs ls hR hS hl)
      · cases hs
    · cases hs
  case ldc idx =>
    have hlen : len = 2 := of_decide_eq_true hoi
    subst hlen
    simp only at hs
    split at hs
    · rename_i v hj
      cases hs
      have h9 := hokP _ (px_find_mem hj)
      simp only [px_okR, decide_eq_true_eq] at h9
      have h8 := hts _ (hal _ h9)
      simp only [px_w, ho] at h8
      exact lv_ldc hx hb hown h8 hd (kk H locs ls hR hS hl)
    · cases hs
  case ldc_w idx =>
    have hlen : len = 3 := of_decide_eq_true hoi
    subst hlen
    simp only at hs
    split at hs
    · rename_i v hj
      cases hs
      have h9 := hokP _ (px_find_mem hj)
      simp only [px_okR, decide_eq_true_eq] at h9
      have h8 := hts _ (hal _ h9)
      simp only [px_w, ho] at h8
      exact lv_ldcw hx hb hown h8 hd (kk H locs ls hR hS hl)
    · cases hs
  case ldc2_w idx =>
    have hlen : len = 3 := of_decide_eq_true hoi
    subst hlen
    simp only at hs
    split at hs
    · rename_i v hj
      cases hs
      have h9 := hokP _ (px_find_mem hj)
      simp only [px_okR, decide_eq_true_eq] at h9
      have h8 := hts _ (hal _ h9)
      simp only [px_w, ho] at h8
      exact lv_ldc2 hx hb hown h8 hd (kk H locs ls hR hS hl)
    · cases hs
  case getfield idx =>
    have hlen : len = 3 := of_decide_eq_true hoi
    subst hlen
    simp only at hs
    split at hs
    · rename_i ci k fl a r hj
      split at hs
      · rename_i c0 fs hq
        split at hs
        · rename_i v hc hv
          cases hs
          have hce := Nat.eq_of_beq_eq_true hc
          subst hce
          have h9 := hokP _ (px_find_mem hj)
          simp only [px_okR] at h9
          rcases hcl : cl[c0]? with _ | ⟨C, F, N⟩
          · rw [hcl] at h9; cases h9
          · rw [hcl] at h9
            simp only [Bool.and_eq_true, decide_eq_true_eq] at h9
            obtain ⟨⟨⟨hk, hlk⟩, -⟩, -⟩ := h9
            have h8 := hts _ (hal _ hlk)
            simp only [px_w, ho, hcl] at h8
            obtain ⟨tys, h1, h2, h3, h4, h5, h6⟩ := hokK _ _ _ _ hcl
            have hv' : (fs.map (px_tr base b))[k]? = some (px_tr base b v) := by rw [List.getElem?_map, hv]; rfl
            exact va_get hx hb hts (fun w hw => hall _ (h5 w hw)) hown hK hR a (px_trH_get hq) hcl k hk h8 (fun _ h => h) hv' hd (kk H locs ls hR hS hl)
        · cases hs
      · cases hs
    · cases hs
  case arraylength =>
    have hlen : len = 1 := of_decide_eq_true hoi
    subst hlen
    simp only at hs
    split at hs
    · split at hs
      · rename_i x
        cases hs
        obtain ⟨h1, h2, h3⟩ := hX x rfl
        exact va_slen hx hb h1 h2 (Nat.not_le.mpr h3) hS hd (kk H locs ls hR hS hl)
      · cases hs
    · rename_i a r
      split at hs
      · rename_i t n f hq
        split at hs
        · rename_i ty ht
          cases hs
          exact va_alen hx hb hK hR a t (px_trH_get hq) (px_tys_get ht) (by show Int32.ofNat (px_trA base (n, f)).1 = _; rw [px_trA_fst]) hd (kk H locs ls hR hS hl)
        · cases hs
      · cases hs
    · cases hs
  case putfield idx =>
    have hlen : len = 3 := of_decide_eq_true hoi
    subst hlen
    simp only at hs
    split at hs
    · rename_i ci k fl v a r hj
      split at hs
      · rename_i c0 fs n tys hq hT
        split at hs
        · rename_i ty hc hty hkl hfl
          split at hs
          · rename_i hft
            cases hs
            have hce := Nat.eq_of_beq_eq_true hc
            subst hce
            have h9 := hokP _ (px_find_mem hj)
            simp only [px_okR] at h9
            rcases hcl : cl[c0]? with _ | ⟨C, F, N⟩
            · rw [hcl] at h9; cases h9
            · rw [hcl] at h9
              simp only [Bool.and_eq_true, Bool.or_eq_true, decide_eq_true_eq] at h9
              obtain ⟨⟨⟨hk, hlk⟩, hfl2⟩, hfl3⟩ := h9
              have h8 := hts _ (hal _ hlk)
              simp only [px_w, ho, hcl] at h8
              obtain ⟨tys', h1, h2, h3, h4, h5, h6⟩ := hokK _ _ _ _ hcl
              rw [hT] at h1
              cases h1
              have hpd : parseFieldDescriptor (F k).2.2.1 = some ty := by rw [h3 k hk, px_getD hty]
              obtain ⟨hn, hfi⟩ := px_fits_ok base b hft
              have hk2 : k < (fs.map (px_tr base b)).length := by rw [List.length_map]; exact of_decide_eq_true hkl
              have hset : (px_trH base b dA hp).set a (base + a, .inr (c0, (fs.map (px_tr base b)).set k (px_tr base b v))) = px_trH base b dA (hp.set a (.inr (c0, fs.set k v))) := by
                rw [← px_trH_set]
                simp only [px_trE, List.map_set]
              by_cases hfin : (F k).2.2.2 = false
              · refine va_put hx hb hts (fun w hw => hall _ (h5 w hw)) (fun k => tys.getD k .int) h3 h4 hown hK hR hD hS a (px_trH_get hq) hcl k hk h8 (fun _ h => h) hfin hpd hn hfi hk2 hd (fun H1 locs1 hP1 hD1 hS1 => ?_)
                rw [hset] at hP1
                exact kk H1 locs1 ls hP1 hS1 hl
              · have hfin : (F k).2.2.2 = true := by simpa using hfin
                have hf2 : fl = 2 := by
                  have h2 := of_decide_eq_true hfl
                  rcases hfl2 with h | h
                  · omega
                  · rw [hfin] at h; cases h
                subst hf2
                have hf3 : kM = 2 ∧ cM = c0 := by
                  rcases hfl3 with h | h
                  · simp at h
                  · exact ⟨Nat.eq_of_beq_eq_true h.1, Nat.eq_of_beq_eq_true h.2⟩
                obtain ⟨e1, e2⟩ := hf3
                subst e2
                obtain ⟨e3, e4⟩ := hkM e1
                refine va_putF hx hb hts (fun w hw => hall _ (h5 w hw)) (fun k => tys.getD k .int) h3 h4 hown hK hR hD hS a (px_trH_get hq) hcl k hk h8 (fun _ h => h) hfin (by rw [hnm e1]; exact e3) ((h6 k hk).trans (e4 _ _ _ hcl)) hpd hn hfi hk2 hd (fun H1 locs1 hP1 hD1 hS1 => ?_)
                rw [hset] at hP1
                exact kk H1 locs1 ls hP1 hS1 hl
          · cases hs
        · cases hs
      · cases hs
    · cases hs
  case iaload =>
    have hlen : len = 1 := of_decide_eq_true hoi
    subst hlen
    simp only at hs
    split at hs
    · rename_i j a r
      simp only [Option.map_eq_some_iff] at hs
      obtain ⟨v, hv, hs⟩ := hs
      cases hs
      unfold px_ald at hv
      split at hv
      · split at hv
        · rename_i x
          split at hv
          · rename_i hin
            cases hv
            obtain ⟨h1, h2, h3⟩ := hX _ rfl
            exact va_sld hx hb h1 h2 (Nat.not_le.mpr h3) hS (px_inR_in hin) hd (kk H locs ls hR hS hl)
          · cases hv
        · cases hv
      · rename_i k
        split at hv
        · rename_i t n f hq
          split at hv
          · cases hv
          · rename_i hin
            split at hv
            · rename_i ht
              cases hv
              exact va_iald hx hb hK hR k t (px_trH_get hq) (px_tys_get ht) (px_inR_in hin) hd (kk H locs ls hR hS hl)
            · rename_i h _; cases h
            · rename_i h _; cases h
            · rename_i h _; cases h
            · cases hv
        · cases hv
      · cases hv
    · cases hs
  case baload =>
    have hlen : len = 1 := of_decide_eq_true hoi
    subst hlen
    simp only at hs
    split at hs
    · rename_i j a r
      simp only [Option.map_eq_some_iff] at hs
      obtain ⟨v, hv, hs⟩ := hs
      cases hs
      unfold px_ald at hv
      split at hv
      · split at hv
        · rename_i h; cases h
        · cases hv
      · rename_i k
        split at hv
        · rename_i t n f hq
          split at hv
          · cases hv
          · rename_i hin
            split at hv
            · rename_i h _; cases h
            · rename_i ht
              cases hv
              exact va_zald hx hb hK hR k t (px_trH_get hq) (px_tys_get ht) (px_inR_in hin) hd (kk H locs ls hR hS hl)
            · rename_i h _; cases h
            · rename_i h _; cases h
            · cases hv
        · cases hv
      · cases hv
    · cases hs
  case laload =>
    have hlen : len = 1 := of_decide_eq_true hoi
    subst hlen
    simp only at hs
    split at hs
    · rename_i j a r
      simp only [Option.map_eq_some_iff] at hs
      obtain ⟨v, hv, hs⟩ := hs
      cases hs
      unfold px_ald at hv
      split at hv
      · split at hv
        · rename_i h; cases h
        · cases hv
      · rename_i k
        split at hv
        · rename_i t n f hq
          split at hv
          · cases hv
          · rename_i hin
            split at hv
            · rename_i h _; cases h
            · rename_i h _; cases h
            · rename_i ht
              cases hv
              exact va_lald hx hb hK hR k t (px_trH_get hq) (px_tys_get ht) (px_inR_in hin) hd (kk H locs ls hR hS hl)
            · rename_i h _; cases h
            · cases hv
        · cases hv
      · cases hv
    · cases hs
  case aaload =>
    have hlen : len = 1 := of_decide_eq_true hoi
    subst hlen
    simp only at hs
    split at hs
    · rename_i j a r
      simp only [Option.map_eq_some_iff] at hs
      obtain ⟨v, hv, hs⟩ := hs
      cases hs
      unfold px_ald at hv
      split at hv
      · split at hv
        · rename_i h; cases h
        · cases hv
      · rename_i k
        split at hv
        · rename_i t n f hq
          split at hv
          · cases hv
          · rename_i hin
            split at hv
            · rename_i h _; cases h
            · rename_i h _; cases h
            · rename_i h _; cases h
            · rename_i C f ht
              split at hv
              · rename_i q hfq
                cases hv
                refine va_aldq hx hb hK hR k t (px_trH_get hq) (px_tys_get ht) (px_inR_in hin) hd ?_
                rw [hfq]
                exact kk H locs ls hR hS hl
              · cases hv
            · cases hv
        · cases hv
      · cases hv
    · cases hs
  case iastore =>
    have hlen : len = 1 := of_decide_eq_true hoi
    subst hlen
    simp only at hs
    split at hs
    · rename_i v j a r
      simp only [Option.map_eq_some_iff] at hs
      obtain ⟨hp', hv, hs⟩ := hs
      cases hs
      unfold px_ast at hv
      split at hv
      · rename_i t n f hq
        split at hv
        · cases hv
        · rename_i hin
          split at hv
          · rename_i f x _ ht
            cases hv
            refine va_iast hx hb hK hR hD hS a t (px_trH_get hq) (px_tys_get ht) (px_inR_in hin) hd (fun H1 locs1 hP1 hD1 hS1 => ?_)
            have hset := px_trH_set base b dA hp a (.inl (t, n, .inl (upd f j.toNatClampNeg x)))
            simp only [px_trE, px_trA] at hset
            rw [hset] at hP1
            exact kk H1 locs1 ls hP1 hS1 hl
          · rename_i h _; cases h
          · rename_i h _; cases h
          · cases hv
      · cases hv
    · cases hs
  case bastore =>
    have hlen : len = 1 := of_decide_eq_true hoi
    subst hlen
    simp only at hs
    split at hs
    · rename_i v j a r
      simp only [Option.map_eq_some_iff] at hs
      obtain ⟨hp', hv, hs⟩ := hs
      cases hs
      unfold px_ast at hv
      split at hv
      · rename_i t n f hq
        split at hv
        · cases hv
        · rename_i hin
          split at hv
          · rename_i h _; cases h
          · rename_i f x _ ht
            split at hv
            · rename_i hx01
              cases hv
              refine va_zast hx hb hK hR hD hS a t (px_trH_get hq) (px_tys_get ht) (px_inR_in hin) hd (fun H1 locs1 hP1 hD1 hS1 => ?_)
              have hnar : vp_nar .boolean x = x := by
                simp only [Bool.or_eq_true, decide_eq_true_eq] at hx01
                rcases hx01 with rfl | rfl <;> rfl
              rw [hnar] at hP1
              have hset := px_trH_set base b dA hp a (.inl (t, n, .inl (upd f j.toNatClampNeg x)))
              simp only [px_trE, px_trA] at hset
              rw [hset] at hP1
              exact kk H1 locs1 ls hP1 hS1 hl
            · cases hv
          · rename_i h _; cases h
          · cases hv
      · cases hv
    · cases hs
  case lastore =>
    have hlen : len = 1 := of_decide_eq_true hoi
    subst hlen
    simp only at hs
    split at hs
    · rename_i v j a r
      simp only [Option.map_eq_some_iff] at hs
      obtain ⟨hp', hv, hs⟩ := hs
      cases hs
      unfold px_ast at hv
      split at hv
      · rename_i t n f hq
        split at hv
        · cases hv
        · rename_i hin
          split at hv
          · rename_i h _; cases h
          · rename_i h _; cases h
          · rename_i f x _ ht
            cases hv
            refine va_last hx hb hK hR hD hS a t (px_trH_get hq) (px_tys_get ht) (px_inR_in hin) hd (fun H1 locs1 hP1 hD1 hS1 => ?_)
            have hset := px_trH_set base b dA hp a (.inl (t, n, .inr (.inl (vp_updL f j.toNatClampNeg x))))
            simp only [px_trE, px_trA] at hset
            rw [hset] at hP1
            exact kk H1 locs1 ls hP1 hS1 hl
          · cases hv
      · cases hv
    · cases hs
  case invokevirtual idx =>
    simp only at hs
    split at hs
    · rename_i mi n ci hj
      split at hs
      · rename_i a ha0
        split at hs
        · rename_i c0 fs hq
          split at hs
          · rename_i hc
            have hce := Nat.eq_of_beq_eq_true hc
            subst hce
            split at hs
            · cases hs
            · rename_i N hN
              split at hs
              · rename_i h1 h2 h3 h4 h5
                split at hs
                · cases hs
                · rename_i r hp' hcl
                  cases hs
                  have hlen : len = 3 := of_decide_eq_true hoi
                  subst hlen
                  have h9 := hokP _ (px_find_mem hj)
                  simp only [px_okR, hN, px_okN] at h9
                  rcases hm9 : mf[mi]? with _ | ⟨k', n', ci'⟩
                  · rw [hm9] at h9; cases h9
                  · rw [hm9] at h9
                    simp only [Bool.and_eq_true, Bool.or_eq_true, decide_eq_true_eq] at h9
                    obtain ⟨⟨⟨⟨⟨⟨⟨⟨j1, j2⟩, j3⟩, k1⟩, k2⟩, k4⟩, k6⟩, k7⟩, k8⟩ := h9
                    have j1 := Nat.eq_of_beq_eq_true j1
                    have j2 := Nat.eq_of_beq_eq_true j2
                    have j3 : ci.toNat = ci' := j3.elim (fun h => nomatch h) Nat.eq_of_beq_eq_true
                    subst j1 j2 j3
                    obtain ⟨k3, m1, -⟩ := hmf mi N _ _ _ hN hm9
                    rcases hcl2 : cl[ci.toNat]? with _ | ⟨C, F9, N9⟩
                    · obtain ⟨rr, hrr, -⟩ := hR _ _ (px_trH_get hq)
                      rw [hcl2] at hrr; cases hrr
                    have k5 := m1 rfl _ _ _ hcl2
                    subst k5
                    have k1 := hCW _ k1
                    have k2 := hts _ (hal _ k2)
                    have k6 := hts _ (hal _ k6)
                    have k7 := hts _ (hal _ k7)
                    have k8 := hts _ (hal _ k8)
                    simp only [px_w, ho, hN] at k1 k2 k6 k7 k8
                    have hM := hcall mi N _ hp r hp' hN hcl
                    have hst : st = st.take n ++ .ref a :: st.drop (n + 1) := px_split ha0
                    have hG : GoodIn Ts (px_ws ALL N) := px_goodIn hall hgood k1
                    have hsz := px_exact (base := base) (b := b) (D := D) (cl := cl) (dA := dA) (H := H) (N0 := N0) (nc := nc) (hp := hp) hR (Nat.le_trans hbase hS.1)
                    refine px_W_size (fun hle => ?_)
                    have hPre : ∀ U : State, U.heap = H → s.WarmedH U.vm → px_Pc EXT base b D cl T dA (px_rm N).cells (st.take (n + 1)).reverse hp ((st.take (n + 1)).reverse.map (px_tr base b)).toArray U := fun U hU hW =>
                      ⟨rfl, by rw [hU]; exact hR, va_K.moved hW.alike hK, px_Ex.moved hEx hW hE, by rw [hU]; exact Nat.le_trans hbase hS.1, fun hne => by
                        rw [hU]
                        rcases of_decide_eq_true h5 with h | h
                        · exact absurd h hne
                        · exact hsz h (by rw [← hN0 (by have := of_decide_eq_true h3; omega)]; exact hle)⟩
                    have hAs : (st.take (n + 1)).reverse.map (px_tr base b) = Value.ref (base + a) :: ((st.take n).reverse.map (px_tr base b)) := px_args ha0
                    rw [hAs] at hPre
                    refine W.eq (g2 := F0 m pc ls (((st.take n).reverse.map (px_tr base b)).reverse ++ Value.ref (base + a) :: ((st.drop (n + 1)).map (px_tr base b)))) (by rw [px_stack ha0]) ?_
                    have hcells := of_decide_eq_true h3
                    have hslots := of_decide_eq_true h4
                    refine px_W_call (va_runV (As := (st.take n).reverse.map (px_tr base b)) (rest := (st.drop (n + 1)).map (px_tr base b)) ⟨hx, hb, hml, hown, hts⟩ hM ⟨callB_of n hts hG rfl rfl rfl k2 k8 k3 (by rw [hRM]; exact k4), k6, k7⟩ ⟨px_blind hEx _ _ _ _ _ _ _ _ _, va_recv hK hR hcl2 (px_trH_get hq), hPre⟩ rfl (px_len_take ha0) (by rw [hl.1]) rfl (px_room (of_decide_eq_true h2)) hd (by rw [hRM]; exact ⟨hcells, hslots⟩)) hS (fun st o t _ h => h.2.2) (fun v st2 t locs1 e1 hQ hS1 => ?_)
                    obtain ⟨ev, hR1, -⟩ := hQ
                    cases ev
                    exact W.eq (by rw [px_ret]) (kk t.heap locs1 ls hR1 hS1 hl)
              · cases hs
          · cases hs
        · cases hs
      · cases hs
    · cases hs
  case invokestatic idx =>
    simp only at hs
    split at hs
    · rename_i mi n fl hj
      split at hs
      · cases hs
      · rename_i N hN
        split at hs
        · rename_i h1 h2 h3 h4 h5
          split at hs
          · cases hs
          · rename_i r hp' hcl
            cases hs
            have hlen : len = 3 := of_decide_eq_true hoi
            subst hlen
            have h9 := hokP _ (px_find_mem hj)
            simp only [px_okR, hN, px_okN] at h9
            rcases hm9 : mf[mi]? with _ | ⟨k', n', ci'⟩
            · rw [hm9] at h9; cases h9
            rw [hm9] at h9
            simp only [Bool.and_eq_true, Bool.or_eq_true, decide_eq_true_eq] at h9
            obtain ⟨⟨⟨⟨⟨⟨⟨j1, j2⟩, j3⟩, k1⟩, k2⟩, k4⟩, k5⟩, k6⟩ := h9
            have j2 := Nat.eq_of_beq_eq_true j2
            subst j2
            obtain ⟨k3, -, -⟩ := hmf mi N _ _ _ hN hm9
            have k1 := hCW _ k1
            have k2 := hts _ (hal _ k2)
            have k5 := hts _ (hal _ k5)
            simp only [px_w, ho, hN] at k1 k2 k5
            have hM := hcall mi N _ hp r hp' hN hcl
            have hG : GoodIn Ts (px_ws ALL N) := px_goodIn hall hgood k1
            have hsz := px_exact (base := base) (b := b) (D := D) (cl := cl) (dA := dA) (H := H) (N0 := N0) (nc := nc) (hp := hp) hR (Nat.le_trans hbase hS.1)
            refine px_W_size (fun hle => ?_)
            have hcells := of_decide_eq_true h3
            have hslots := of_decide_eq_true h4
            have hn := of_decide_eq_true h1
            have hPre : ∀ U : State, U.heap = H → s.WarmedH U.vm → px_Pc EXT base b D cl T dA (px_rm N).cells (st.take n).reverse hp ((st.take n).reverse.map (px_tr base b)).toArray U := fun U hU hW =>
              ⟨rfl, by rw [hU]; exact hR, va_K.moved hW.alike hK, px_Ex.moved hEx hW hE, by rw [hU]; exact Nat.le_trans hbase hS.1, fun hne => by
                rw [hU]
                rcases of_decide_eq_true h5 with h | h
                · exact absurd h hne
                · exact hsz h (by rw [← hN0 (by omega)]; exact hle)⟩
            have hla : ((st.take n).reverse.map (px_tr base b)).length = n := by simp; omega
            refine W.eq (g2 := F0 m pc ls (((st.take n).reverse.map (px_tr base b)).reverse ++ ((st.drop n).map (px_tr base b)))) (by rw [← px_stackS]) ?_
            rcases k6 with k6 | k6
            · have k6 := hts _ (hal _ k6)
              simp only [px_w, ho, hN] at k6
              refine px_W_call (va_runS (As := (st.take n).reverse.map (px_tr base b)) (rest := (st.drop n).map (px_tr base b)) ⟨hx, hb, hml, hown, hts⟩ hM ⟨callB_of n hts hG rfl rfl rfl k2 k6 k3 (by rw [hRM]; exact k4), k5⟩ ⟨px_blind hEx _ _ _ _ _ _ _ _ _, hPre⟩ rfl hla (by rw [hl.1]) rfl (px_room (of_decide_eq_true h2)) hd (by rw [hRM]; exact ⟨hcells, hslots⟩)) hS (fun st o t _ h => h.2.2) (fun v st2 t locs1 e1 hQ hS1 => ?_)
              obtain ⟨ev, hR1, -⟩ := hQ
              cases ev
              exact W.eq (by rw [px_ret]) (kk t.heap locs1 ls hR1 hS1 hl)
            · have k6 := hCE _ k6
              simp only [px_w, ho, hN] at k6
              refine px_W_call (va_runSN (As := (st.take n).reverse.map (px_tr base b)) (rest := (st.drop n).map (px_tr base b)) ⟨hx, hb, hml, hown, hts⟩ hM ⟨va_cnB n hts hG rfl rfl rfl (hE _ k6) k2 k3 (by rw [hRM]; exact k4), k5, trivial⟩ ⟨px_blind hEx _ _ _ _ _ _ _ _ _, hPre⟩ rfl hla (by rw [hl.1]) rfl (px_room (of_decide_eq_true h2)) hd (by rw [hRM]; exact ⟨hcells, hslots⟩)) hS (fun st o t _ h => h.2.2) (fun v st2 t locs1 e1 hQ hS1 => ?_)
              obtain ⟨ev, hR1, -⟩ := hQ
              cases ev
              exact W.eq (by rw [px_ret]) (kk t.heap locs1 ls hR1 hS1 hl)
        · cases hs
    · rename_i w z1 z2 hj
      split at hs
      · rename_i st' hmth h2 h3 h4
        cases hs
        have hlen : len = 3 := of_decide_eq_true hoi
        subst hlen
        have h9 := hokP _ (px_find_mem hj)
        simp only [px_okR, Bool.and_eq_true, decide_eq_true_eq] at h9
        obtain ⟨⟨⟨⟨⟨⟨g0, k1⟩, k2⟩, k3⟩, k4⟩, k5⟩, k6⟩ := h9
        have q1 := hts _ (hal _ k1)
        have q2 := hts _ (hal _ k2)
        have q3 := hts _ (hal _ k3)
        have q4 := hts _ (hal _ k4)
        have hc := of_decide_eq_true h3
        have hsl := of_decide_eq_true h4
        have h22 := of_decide_eq_true h2
        have hmls : c.maxLocals = ls.size := by rw [hml, hl.1]
        unfold px_math at hmth
        split at hmth
        · rename_i y x r
          cases hmth
          simp only [px_w, ho, px_mn] at q1 q2 q3 q4
          have h5 := px_room (m := m) (pc := pc) (ls := ls) (st0 := []) (base := base) (b := b) (rest := r) h22
          refine va_mmax hx hb hmls hown q1 q2 q4 q3 (by rw [hRM]; exact k5) (by rw [hRM]; omega) (by rw [hRM]; exact hc) (by rw [hRM]; exact hsl) hd ?_
          exact kk H locs ls hR hS hl
        · rename_i y x r
          cases hmth
          simp only [px_w, ho, px_mn] at q1 q2 q3 q4
          have h5 := px_room (m := m) (pc := pc) (ls := ls) (st0 := []) (base := base) (b := b) (rest := r) h22
          refine va_mmin hx hb hmls hown q1 q2 q4 q3 (by rw [hRM]; exact k5) (by rw [hRM]; omega) (by rw [hRM]; exact hc) (by rw [hRM]; exact hsl) hd ?_
          exact kk H locs ls hR hS hl
        · rename_i y x r
          cases hmth
          simp only [px_w, ho, px_mn] at q1 q2 q3 q4
          have h5 := px_room (m := m) (pc := pc) (ls := ls) (st0 := []) (base := base) (b := b) (rest := r) h22
          refine va_mmax_long hx hb hmls hown q1 q2 q4 q3 (by rw [hRM]; exact k5) (by rw [hRM]; omega) (by rw [hRM]; exact hc) (by rw [hRM]; exact hsl) hd ?_
          exact kk H locs ls hR hS hl
        · rename_i y x r
          cases hmth
          simp only [px_w, ho, px_mn] at q1 q2 q3 q4
          have h5 := px_room (m := m) (pc := pc) (ls := ls) (st0 := []) (base := base) (b := b) (rest := r) h22
          refine va_mmin_long hx hb hmls hown q1 q2 q4 q3 (by rw [hRM]; exact k5) (by rw [hRM]; omega) (by rw [hRM]; exact hc) (by rw [hRM]; exact hsl) hd ?_
          exact kk H locs ls hR hS hl
        · cases hmth
      · cases hs
    · cases hs
  case invokespecial idx =>
    have hlen : len = 3 := of_decide_eq_true hoi
    subst hlen
    simp only at hs
    split at hs
    · rename_i hj
      split at hs
      · rename_i a r
        split at hs
        · rename_i hcat
          cases hs
          have h9 := hokP _ (px_find_mem hj)
          simp only [px_okR, Bool.and_eq_true, decide_eq_true_eq] at h9
          obtain ⟨⟨⟨⟨k1, k2⟩, k3⟩, k4⟩, k5⟩ := h9
          have q1 := hts _ (hal _ k1)
          have q2 := hts _ (hal _ k2)
          have q3 := hts _ (hal _ k3)
          simp only [px_w, ho] at q1 q2 q3
          refine W.objInit hx hb hown q1 q2 q3 rfl (by rw [hml]; exact hl.1) rfl hd (by rw [hRM]; exact k4) ?_ (kk H locs ls hR hS hl)
          have := px_room (m := m) (pc := pc) (ls := ls) (st0 := List.map (px_tr base b) (Value.ref a :: r)) (base := base) (b := b) (of_decide_eq_true hcat)
          rw [hRM]
          omega
        · cases hs
      · cases hs
    · rename_i mi n fl hj
      split at hs
      · rename_i a ha0
        split at hs
        · cases hs
        · rename_i N hN
          split at hs
          · rename_i h1 h2 h3 h4 h5
            split at hs
            · cases hs
            · rename_i r hp' hcl
              cases hs
              have h9 := hokP _ (px_find_mem hj)
              simp only [px_okR, hN, px_okN] at h9
              rcases hm9 : mf[mi]? with _ | ⟨k', n', ci'⟩
              · rw [hm9] at h9; cases h9
              rw [hm9] at h9
              simp only [Bool.and_eq_true, Bool.or_eq_true, decide_eq_true_eq] at h9
              obtain ⟨⟨⟨⟨⟨⟨⟨j1, j2⟩, j3⟩, k1⟩, k2⟩, k4⟩, k7⟩, k8⟩ := h9
              have j1 := Nat.eq_of_beq_eq_true j1
              have j2 := Nat.eq_of_beq_eq_true j2
              subst j1 j2
              obtain ⟨k3, -, m2⟩ := hmf mi N _ _ _ hN hm9
              obtain ⟨k5, k6, -⟩ := m2 rfl
              have k1 := hCW _ k1
              have k2 := hts _ (hal _ k2)
              have k7 := hts _ (hal _ k7)
              simp only [px_w, ho, hN] at k1 k2 k7
              have hM := hcall mi N _ hp r hp' hN hcl
              have hG : GoodIn Ts (px_ws ALL N) := px_goodIn hall hgood k1
              have hsz := px_exact (base := base) (b := b) (D := D) (cl := cl) (dA := dA) (H := H) (N0 := N0) (nc := nc) (hp := hp) hR (Nat.le_trans hbase hS.1)
              refine px_W_size (fun hle => ?_)
              have hcells := of_decide_eq_true h3
              have hslots := of_decide_eq_true h4
              have hPre : ∀ U : State, U.heap = H → s.WarmedH U.vm → px_Pc EXT base b D cl T dA (px_rm N).cells (st.take (n + 1)).reverse hp ((st.take (n + 1)).reverse.map (px_tr base b)).toArray U := fun U hU hW =>
                ⟨rfl, by rw [hU]; exact hR, va_K.moved hW.alike hK, px_Ex.moved hEx hW hE, by rw [hU]; exact Nat.le_trans hbase hS.1, fun hne => by
                  rw [hU]
                  rcases of_decide_eq_true h5 with h | h
                  · exact absurd h hne
                  · exact hsz h (by rw [← hN0 (by omega)]; exact hle)⟩
              have hAs : (st.take (n + 1)).reverse.map (px_tr base b) = Value.ref (base + a) :: ((st.take n).reverse.map (px_tr base b)) := px_args ha0
              rw [hAs] at hPre
              refine W.eq (g2 := F0 m pc ls (((st.take n).reverse.map (px_tr base b)).reverse ++ Value.ref (base + a) :: ((st.drop (n + 1)).map (px_tr base b)))) (by rw [px_stack ha0]) ?_
              rcases k8 with k8 | k8
              · have k8 := hts _ (hal _ k8)
                simp only [px_w, ho, hN] at k8
                refine px_W_call (va_runI (As := (st.take n).reverse.map (px_tr base b)) (rest := (st.drop (n + 1)).map (px_tr base b)) ⟨hx, hb, hml, hown, hts⟩ hM ⟨px_eqr k6 (callB_of n hts hG rfl rfl rfl k2 k8 k3 (by rw [hRM]; exact k4)), k5, k7⟩ ⟨px_blind hEx _ _ _ _ _ _ _ _ _, hPre⟩ rfl (px_len_take ha0) (by rw [hl.1]) rfl (px_room (of_decide_eq_true h2)) hd (by rw [hRM]; exact ⟨hcells, hslots⟩)) hS (fun st o t _ h => h.2.2) (fun v st2 t locs1 e1 hQ hS1 => ?_)
                obtain ⟨ev, hR1, -⟩ := hQ
                cases ev
                exact W.eq (by rw [px_ret]) (kk t.heap locs1 ls hR1 hS1 hl)
              · have k8 := hCE _ k8
                simp only [px_w, ho, hN] at k8
                refine px_W_call (va_runIN (As := (st.take n).reverse.map (px_tr base b)) (rest := (st.drop (n + 1)).map (px_tr base b)) ⟨hx, hb, hml, hown, hts⟩ hM ⟨px_eqn k6 (va_cnB n hts hG rfl rfl rfl (hE _ k8) k2 k3 (by rw [hRM]; exact k4)), k5, k7⟩ ⟨px_blind hEx _ _ _ _ _ _ _ _ _, hPre⟩ rfl (px_len_take ha0) (by rw [hl.1]) rfl (px_room (of_decide_eq_true h2)) hd (by rw [hRM]; exact ⟨hcells, hslots⟩)) hS (fun st o t _ h => h.2.2) (fun v st2 t locs1 e1 hQ hS1 => ?_)
                obtain ⟨ev, hR1, -⟩ := hQ
                cases ev
                exact W.eq (by rw [px_ret]) (kk t.heap locs1 ls hR1 hS1 hl)
          · cases hs
      · cases hs
    · cases hs
  case new idx =>
    have hlen : len = 3 := of_decide_eq_true hoi
    subst hlen
    simp only at hs
    split at hs
    · rename_i ci z1 z2 hj
      split at hs
      · rename_i n tys hT
        split at hs
        · rename_i h1 h2 h3
          cases hs
          have h9 := hokP _ (px_find_mem hj)
          simp only [px_okR, Bool.and_eq_true, decide_eq_true_eq] at h9
          obtain ⟨⟨k2, k3⟩, k4⟩ := h9
          have k2 := hts _ (hal _ k2)
          have k3 := hts _ (hal _ k3)
          have k4 := hts _ (hal _ k4)
          rcases hcl2 : cl[ci]? with _ | ⟨C, F9, N9⟩
          · exact absurd (hokL ci hcl2) (by rw [hT]; simp)
          · simp only [px_w, ho, hcl2] at k2 k3 k4
            obtain ⟨tys', e1, e2, e3, e4, e5, e6⟩ := hokK _ _ _ _ hcl2
            rw [hT] at e1
            cases e1
            have hKn := hK.1 ci _ hcl2
            have hsz := px_exact (base := base) (b := b) (D := D) (cl := cl) (dA := dA) (H := H) (N0 := N0) (nc := nc) (hp := hp) hR (Nat.le_trans hbase hS.1)
            refine px_W_size (fun hle => ?_)
            have hc1 := of_decide_eq_true h1
            have hHs : H.size = base + hp.length := hsz (of_decide_eq_true h3) (by rw [← hN0 (by omega)]; exact hle)
            refine W.newcK hx hb hown k2 k3 k4 rfl hd (by rw [hRM]; exact hc1) (by rw [hRM]; exact of_decide_eq_true h2) hKn.2.1 hHs (fun H1 kC hkC g1 g2 g3 => ?_)
            refine kk H1 locs ls ?_ ⟨Nat.le_trans hS.1 (by omega), fun x q1 q2 => (g3 x (by have := hS.1; omega)).trans (hS.2.1 x q1 q2), hS.2.2⟩ hl
            show va_P D cl (px_trH base b dA (hp ++ [.inr (ci, tys.map defaultValue)])) H1
            rw [px_trH_push]
            refine va_P.app (va_P.kept hR (fun k x hx9 => g3 x.1 (by rw [← hHs]; exact (hR k x hx9).lt))) (fun k x hx9 => ?_)
            have hz : k < 1 := (List.getElem?_eq_some_iff.mp hx9).1
            rw [show k = 0 by omega] at hx9
            cases hx9
            refine ⟨_, hcl2, (u_born (fun k => tys.getD k .int) hts (fun w hw => hall _ (e5 w hw)) hKn hkC g1 e3).to (fun j hj9 => ?_)⟩
            exact px_dv base b tys j (by rw [e2]; exact hj9)
        · cases hs
      · cases hs
    · cases hs
  case newarray aty =>
    have hlen : len = 2 := of_decide_eq_true hoi
    subst hlen
    simp only at hs
    split at hs
    · rename_i t z1 z2 n r hj
      split at hs
      · rename_i ty ht h0 h1 h2 h3 h4
        split at hs
        · rename_i a0 h5 h6
          cases hs
          have hty := of_decide_eq_true h5
          have h9 := hokP _ (px_find_mem hj)
          have hsz := px_exact (base := base) (b := b) (D := D) (cl := cl) (dA := dA) (H := H) (N0 := N0) (nc := nc) (hp := hp) hR (Nat.le_trans hbase hS.1)
          refine px_W_size (fun hle => ?_)
          have hc1 := of_decide_eq_true h2
          have hHs : H.size = base + hp.length := hsz (of_decide_eq_true h4) (by rw [← hN0 (by omega)]; exact hle)
          obtain ⟨q1, q2, q3⟩ := px_dflt_ok (base := base) h6
          have hac : (Cond.arrayClass ty).before args s = true := by
            simp only [px_okR, ht] at h9
            cases ty <;> first | (have h8 := hts _ (hal _ (of_decide_eq_true h9)); simp only [px_w, ht] at h8; exact h8) | (exfalso; cases aty <;> simp [newarray.typeOf] at hty) | (simp [px_dflt] at h6; done)
          have hn0 : ¬ n < 0 := by
            rw [Int32.lt_iff_toInt_lt]
            have := of_decide_eq_true h0
            simp only [Int32.toInt_zero]
            omega
          have hK2 := hK.2 t _ (px_tys_get ht)
          refine va_newaK hx hb (by rw [hty]; exact hac) rfl hd rfl hn0 rfl ?_ (by rw [hRM]; exact hc1) (by rw [hRM]; exact of_decide_eq_true h3) hHs (fun H1 cA g1 g2 g3 g4 g5 => ?_)
          · rw [hty]
            have := of_decide_eq_true h1
            have := px_clamp (of_decide_eq_true h0) (of_decide_eq_true h1)
            have := px_cb ty
            exact Nat.le_trans (Nat.mul_le_mul ‹_› this) (by decide)
          · have hcA : cA = dA t := by
              rw [hty] at g5
              have h8 := px_RA (by rw [← hty]; cases aty <;> rfl) hK2.2
              rw [g5] at h8
              exact Option.some.inj h8
            subst hcA
            refine kk H1 locs ls ?_ ⟨Nat.le_trans hS.1 (by omega), fun x y1 y2 => (g3 x (by have := hS.1; omega)).trans (hS.2.1 x y1 y2), hS.2.2⟩ hl
            show va_P D cl (px_trH base b dA (hp ++ [.inl (t, a0)])) H1
            rw [px_trH_push]
            refine va_P.app (va_P.kept hR (fun k x hx9 => g3 x.1 (by rw [← hHs]; exact (hR k x hx9).lt))) (fun k x hx9 => ?_)
            have hz : k < 1 := (List.getElem?_eq_some_iff.mp hx9).1
            rw [show k = 0 by omega] at hx9
            cases hx9
            show H1[base + hp.length]? = some (vp_cell (dA t) (px_trA base a0))
            rw [g1, q1 (dA t), hty]
        · cases hs
      · cases hs
    · cases hs
  case anewarray idx =>
    have hlen : len = 3 := of_decide_eq_true hoi
    subst hlen
    simp only at hs
    split at hs
    · rename_i t z1 z2 t' z3 z4 n r hj hj2
      split at hs
      · rename_i C ht h00 h0 h1 h2 h3 h4
        cases hs
        have e00 := Nat.eq_of_beq_eq_true h00
        subst e00
        have h9 := hokP _ (px_find_mem hj2)
        simp only [px_okR, ht, Bool.and_eq_true, decide_eq_true_eq, Nat.add_sub_cancel_left] at h9
        have q1 := hts _ (hal _ h9.1)
        have q2 := hCE _ h9.2
        simp only [px_w, ho, ht] at q1 q2
        have hsz := px_exact (base := base) (b := b) (D := D) (cl := cl) (dA := dA) (H := H) (N0 := N0) (nc := nc) (hp := hp) hR (Nat.le_trans hbase hS.1)
        refine px_W_size (fun hle => ?_)
        have hc1 := of_decide_eq_true h2
        have hHs : H.size = base + hp.length := hsz (of_decide_eq_true h4) (by rw [← hN0 (by omega)]; exact hle)
        have hn0 : ¬ n < 0 := by
          rw [Int32.lt_iff_toInt_lt]
          have := of_decide_eq_true h0
          simp only [Int32.toInt_zero]
          omega
        obtain ⟨-, kA0, comp0, p1, p2, p3, p4⟩ := hK.2 t _ (px_tys_get ht)
        have hcb := px_clamp (of_decide_eq_true h0) (of_decide_eq_true h1)
        refine W.anew hx hb hown q1 (va_AO.use (hE _ q2)) rfl hd rfl hn0 (by omega) (by rw [hRM]; exact hc1) (by rw [hRM]; exact of_decide_eq_true h3) (fun cA kA comp g1 g2 g3 g4 => ?_)
        have hcA : cA = dA t := by
          rw [g1] at p4
          exact Option.some.inj p4
        subst hcA
        rw [hHs]
        have hpush : ∀ q : Nat, q < H.size → (H.push { cls := dA t, slots := Array.replicate n.toNatClampNeg Value.null, vm := .none })[q]? = H[q]? := fun q hq => by
          rw [Array.getElem?_push_lt hq, Array.getElem?_eq_getElem hq]
        refine kk _ locs ls ?_ ⟨Nat.le_trans hS.1 (by rw [Array.size_push]; omega), fun x y1 y2 => (hpush x (Nat.lt_of_lt_of_le y1 hS.1)).trans (hS.2.1 x y1 y2), hS.2.2⟩ hl
        show va_P D cl (px_trH base b dA (hp ++ [.inl (t, n.toNatClampNeg, .inr (.inr (.inr (.inr (fun _ => none)))))])) _
        rw [px_trH_push]
        refine va_P.app (va_P.kept hR (fun k x hx9 => hpush x.1 (hR k x hx9).lt)) (fun k x hx9 => ?_)
        have hz : k < 1 := (List.getElem?_eq_some_iff.mp hx9).1
        rw [show k = 0 by omega] at hx9
        cases hx9
        show (H.push _)[base + hp.length]? = some (vp_cell (dA t) (n.toNatClampNeg, .inr (.inr (.inr (.inr (fun _ => none))))))
        rw [← hHs, Array.getElem?_push_size]
        congr 1
        rw [vp_cell_q]
        simp only [arrV, va_rf]
        congr 1
        apply Array.ext
        · simp
        · intro i q1 q2
          simp
      · cases hs
    · cases hs
  case aastore =>
    have hlen : len = 1 := of_decide_eq_true hoi
    subst hlen
    simp only at hs
    split at hs
    · rename_i v j a r
      split at hs
      · rename_i t n f ci vs hq hv
        split at hs
        · rename_i C w9 hin ht hT
          split at hs
          · rename_i ci' t' z2 hj
            split at hs
            · rename_i hcc
              cases hs
              simp only [Bool.and_eq_true] at hcc
              have e00 := Nat.eq_of_beq_eq_true hcc.1
              have e01 := Nat.eq_of_beq_eq_true hcc.2
              subst e00 e01
              have h9 := hokP _ (px_find_mem hj)
              simp only [px_okR, ht] at h9
              rcases hcl2 : cl[ci]? with _ | ⟨C2, F9, N9⟩
              · rw [hcl2] at h9; cases h9
              · rw [hcl2] at h9
                have h10 := of_decide_eq_true h9
                have h11 : T.1[t]? = some (.object C2) := by rw [ht, h10]
                refine va_astq hx hb hK hR hD hS a t v ci (px_trH_get hq) (px_tys_get h11) (px_trH_get hv) hcl2 (px_inR_in hin) hd (fun H1 locs1 hP1 hD1 hS1 => ?_)
                have hset := px_trH_set base b dA hp a (.inl (t, n, .inr (.inr (.inr (.inr (va_up f j.toNatClampNeg (some v)))))))
                simp only [px_trE, px_trA] at hset
                rw [px_upq] at hset
                rw [hset] at hP1
                exact kk H1 locs1 ls hP1 hS1 hl
            · cases hs
          · cases hs
        · cases hs
      · cases hs
    · cases hs
  case ireturn =>
    simp only at hs
    split at hs
    · split at hs <;> cases hs
    · cases hs
  case lreturn =>
    simp only at hs
    split at hs <;> cases hs
  case return_ =>
    simp only at hs
    split at hs <;> cases hs
  all_goals cases hs
end px_s3
end
section
section px_s4
variable {l : Launch} {base b : Nat} {D : va_G} {cl : List vw_C} {T : px_T} {dA : Nat → ClassId} {P : List px_M} {ALL EXT : List Cond} {host : String} {ow : List String} {mf : List (Nat × Nat × Nat)}
/-- the method's end -/
theorem px_sim_ret {p : Program} {e : Env} {s : State} {m : MethodId} {args : Array Value} {below : List Frame} {meth : Method} {c : Code} {H : Heap} {locs : List Loc} {M : px_M} {X : Option (Nat × (Nat → Int32))} {call : Nat → List Value → px_H → Option px_A} {pc nc ns N0 : Nat} {lv : List (Nat × Value)} {st : List Value} {hp hp' : px_H} {r : Option Value} {ls : Array Slot} {mc ms : Nat}
    (hx : p.tables.exec = Jvm.exec) (hb : c.code = px_by M) (hr : meth.sig.returnType = px_rt M) (hlocks : meth.locks = false)
    (hok : px_okC M = true) (hmc : (px_rm M).cells = mc) (hms : (px_rm M).slots = ms)
    (hs : px_step T X P call M N0 (pc, lv, st, hp, nc, ns) = some (.inr (r, hp'))) (hR : px_Rel base b D cl dA hp H) (hS : va_S (fun q => base ≤ q) s.heap H locs) :
    W p l e (px_rm M) s m args below meth c H locs nc ns (MQ below (px_Qc base b D cl dA r hp') args s mc ms (fun q => base ≤ q)) (F0 m pc ls (st.map (px_tr base b))) := by
  subst hmc
  subst hms
  simp only [px_step] at hs
  split at hs
  · cases hs
  rename_i len i hf
  have hI := List.all_eq_true.mp hok _ (px_find_mem hf)
  simp only [Bool.and_eq_true, decide_eq_true_eq] at hI
  obtain ⟨hd, hoi⟩ := hI
  split at hs
  · cases hs
  rename_i ha
  cases i
  case ireturn =>
    have hlen : len = 1 := of_decide_eq_true hoi
    subst hlen
    simp only at hs
    split at hs
    · rename_i v ty h1 h2 h3
      split at hs
      · rename_i hz
        cases hs
        refine W.widen (of_decide_eq_true h2) (of_decide_eq_true h3) ?_
        refine W.zret (ty := ty) hx hb (by rw [hr, h1]) ?_ (fun t ht hW => ⟨rfl, by rw [ht]; exact hR, by rw [ht]; exact hS.1, fun q q1 q2 => by rw [ht]; exact hS.2.1 q q1 q2⟩) hS.2.2 hd
        unfold px_zr at hz
        split at hz
        · rfl
        · simp only [Bool.or_eq_true, decide_eq_true_eq] at hz
          rcases hz with rfl | rfl <;> rfl
        · cases hz
      · cases hs
    · cases hs
  case lreturn =>
    have hlen : len = 1 := of_decide_eq_true hoi
    subst hlen
    simp only at hs
    split at hs
    · rename_i v h1 h2 h3
      cases hs
      refine W.widen (of_decide_eq_true h2) (of_decide_eq_true h3) ?_
      exact W.lret hx hb (by rw [hr, h1]) (fun t ht hW => ⟨rfl, by rw [ht]; exact hR, by rw [ht]; exact hS.1, fun q q1 q2 => by rw [ht]; exact hS.2.1 q q1 q2⟩) hS.2.2 hd
    · cases hs
  case return_ =>
    have hlen : len = 1 := of_decide_eq_true hoi
    subst hlen
    simp only at hs
    split at hs
    · rename_i h1 h2 h3
      cases hs
      refine W.widen (of_decide_eq_true h2) (of_decide_eq_true h3) ?_
      exact W.vret hx hb (by rw [hr, h1]) (fun t ht hW => ⟨rfl, by rw [ht]; exact hR, by rw [ht]; exact hS.1, fun q q1 q2 => by rw [ht]; exact hS.2.1 q q1 q2⟩) hS.2.2 hd
    · cases hs
  all_goals
    exfalso
    revert hs
    try simp only []
    repeat' split
    all_goals first | (intro h; cases h; done) | (simp; done) | (intro h; simp only [Option.map_eq_some_iff] at h; obtain ⟨_, _, h⟩ := h; cases h; done)
/-- what stands fast of the program -/
def px_Wd (ow : List String) (cl : List vw_C) (T : px_T) (P : List px_M) (ALL EXT : List Cond) (host : String) (mf : List (Nat × Nat × Nat)) (M : px_M) : Prop :=
  ∃ (CW CE : List px_Cw) (o kM cM : Nat), px_okM cl T P CW CE mf o kM cM M = true ∧ (∀ q ∈ CW, px_w ow cl T P host q ∈ ALL) ∧ (∀ q ∈ CE, px_w ow cl T P host q ∈ EXT) ∧ ow.getD o "" = (px_nm M).cls ∧ (kM = 2 → (px_nm M).name = "<init>" ∧ ∀ (C : String) (F : u_T) (N9 : Nat), cl[cM]? = some (C, F, N9) → C = (px_nm M).cls)
def px_Ok (ow : List String) (cl : List vw_C) (T : px_T) (P : List px_M) (ALL EXT : List Cond) (host : String) (mf : List (Nat × Nat × Nat)) : Prop :=
  (∀ M ∈ P, px_Wd ow cl T P ALL EXT host mf M ∧ plainName (px_nm M).cls = true) ∧ (px_okK cl T ALL ∧ (∀ ci : Nat, cl[ci]? = none → T.2[ci]? = none) ∧ px_Mf cl P mf) ∧ (∀ w ∈ ALL, (w.onTables && w.keeps) = true ∨ ∃ ty, w = .arrayClass ty) ∧ ∀ w ∈ EXT, px_isX w = true
theorem px_run_sim {p : Program} {e : Env} {s : State} {m : MethodId} {args : Array Value} {below : List Frame} {meth : Method} {c : Code} {M : px_M} {Ts : List Cond} {call : Nat → List Value → px_H → Option px_A} {N0 : Nat} {r : Option Value} {hp' : px_H}
    (hx : p.tables.exec = Jvm.exec) (hb : c.code = px_by M) (hml : c.maxLocals = px_ml M) (hown : s.vm.findClass (px_nm M).cls = some m.cls) (hts : ∀ w ∈ Ts, w.before args s = true) (hK : va_K D cl (px_tys T dA) s) (hE : px_Ex EXT s) (hnm : meth.name = (px_nm M).name)
    (hr : meth.sig.returnType = px_rt M) (hlocks : meth.locks = false)
    (hok : px_Wd ow cl T P ALL EXT host mf M) (hOk : px_Ok ow cl T P ALL EXT host mf) (hall : ∀ w ∈ ALL, w ∈ Ts)
    (hcall : ∀ mi N av hp r hp', P[mi]? = some N → call mi av hp = some (r, hp') → px_Met l base b D cl T dA ALL EXT N av hp r hp')
    (hbase : base ≤ s.heap.size) (hN0 : (px_rm M).cells ≠ 0 → s.heap.size = base + N0) :
    ∀ (n : Nat) (S : px_S), px_run T none P call M N0 n S = some (r, hp') → ∀ (H : Heap) (locs : List Loc) (ls : Array Slot), px_Rel base b D cl dA S.2.2.2.1 H → va_S (fun q => base ≤ q) s.heap H locs → lv_has ls (px_ml M) (px_trL base b S.2.1) →
      W p l e (px_rm M) s m args below meth c H locs S.2.2.2.2.1 S.2.2.2.2.2 (MQ below (px_Qc base b D cl dA r hp') args s (px_rm M).cells (px_rm M).slots (fun q => base ≤ q)) (F0 m S.1 ls (S.2.2.1.map (px_tr base b))) := by
  obtain ⟨CW, CE, o, kM, cM, hokM, hCW, hCE, ho, hkM⟩ := hok
  intro n
  induction n with
  | zero => intro S h; cases h
  | succ n ih =>
    intro S h H locs ls hR hS hl
    obtain ⟨pc, lv, st, hp, nc, ns⟩ := S
    unfold px_run at h
    split at h
    · cases h
    · rename_i s' hs
      exact px_sim hx hb hml hown hts hK hE hOk.2.2.2 (fun _ => hnm) hokM hCW hCE ho hOk.2.1.2.2 hkM hOk.2.1.1 hOk.2.1.2.1 hall hOk.2.2.1 rfl hcall (fun x hx => by cases hx) hbase hN0 hs hR hS hl (fun H' locs' ls' hR' hS' hl' => ih s' h H' locs' ls' hR' hS' hl')
    · rename_i r9 hs
      cases h
      have hokC : px_okC M = true := by
        have := hokM
        simp only [px_okM, Bool.and_eq_true] at this
        exact this.1
      exact px_sim_ret hx hb hr hlocks hokC rfl rfl hs hR hS
/-- a pure call is a contract of the machine -/
theorem px_call_sim {Spc : Nat → List Value → px_H → Option px_A} (hOk : px_Ok ow cl T P ALL EXT host mf) (hSpc : ∀ mi N av hp r hp', P[mi]? = some N → Spc mi av hp = some (r, hp') → px_Met l base b D cl T dA ALL EXT N av hp r hp') :
    ∀ (n mi : Nat) (N : px_M) (av : List Value) (hp : px_H) (r : Option Value) (hp' : px_H), P[mi]? = some N → px_call T P Spc n mi av hp = some (r, hp') → px_Met l base b D cl T dA ALL EXT N av hp r hp' := by
  intro n
  induction n with
  | zero => intro mi N av hp r hp' _ h; cases h
  | succ n ih =>
    intro mi N av hp r hp' hN h
    unfold px_call at h
    split at h
    · rename_i r9 hs
      cases h
      exact hSpc mi N av hp _ _ hN hs
    rw [hN] at h
    simp only at h
    split at h
    · cases h
    · rename_i hlen
      obtain ⟨hok, hpl⟩ := hOk.1 N (List.mem_of_getElem? hN)
      refine Met.ofW (cc := px_by N) (maxL := px_ml N) (ret := px_rt N) hpl rfl ?_
      intro p e s m args below meth c s₁ B hml hv
      obtain ⟨rfl, hR, hK, hE, hbase, hN0⟩ := hv
      have hts := atoms_spec (ws := px_ws ALL N) B.pre
      have hl := lv_entry (av.map (px_tr base b)) (n := px_ml N) (by rw [px_lg_sl]; exact of_decide_eq_true hlen)
      rw [lg_entry_eq]
      generalize (lg_sl (av.map (px_tr base b)) ++ List.replicate (px_ml N - (lg_sl (av.map (px_tr base b))).length) Slot.unset).toArray = ls at hl ⊢
      rw [px_lv_args] at hl
      exact px_run_sim (Ts := px_ws ALL N) B.exec B.bytes hml (findClass_of_methodNamed B.named) hts hK hE (name_of_methodNamed B.named B.method).1 B.returns B.notSynchronized hok hOk (fun w hw => List.mem_cons_of_mem _ hw) (fun mi N av hp r hp' h1 h2 => ih mi N av hp r hp' h1 h2) hbase hN0 n _ h s.heap [] ls hR va_S.rf hl
end px_s4
end
section
def nm_F0 : u_T := fun k => match k with
  | 0 => ("NamesInBags$Chest", "slips", "J", false)
  | 1 => ("NamesInBags$Chest", "sats", "I", false)
  | _ => ("NamesInBags$Chest", "next", "I", false)
def nm_F1 : u_T := fun k => match k with
  | 0 => ("NamesInBags$Course", "town", "LNamesInBags$Town;", true)
  | 1 => ("NamesInBags$Course", "rule", "LNamesInBags$Rule;", false)
  | 2 => ("NamesInBags$Course", "packed", "[I", true)
  | 3 => ("NamesInBags$Course", "absent", "I", false)
  | 4 => ("NamesInBags$Course", "number", "I", false)
  | 5 => ("NamesInBags$Course", "bag", "I", false)
  | 6 => ("NamesInBags$Course", "seats", "I", false)
  | 7 => ("NamesInBags$Course", "dead", "I", false)
  | 8 => ("NamesInBags$Course", "indebted", "I", false)
  | 9 => ("NamesInBags$Course", "away", "I", false)
  | 10 => ("NamesInBags$Course", "kin", "[I", true)
  | 11 => ("NamesInBags$Course", "seated", "I", false)
  | 12 => ("NamesInBags$Course", "back", "I", false)
  | _ => ("NamesInBags$Course", "aside", "I", false)
def nm_F2 : u_T := fun k => match k with
  | 0 => ("NamesInBags$Row", "numbers", "[J", true)
  | _ => ("NamesInBags$Row", "size", "I", false)
def nm_F3 : u_T := fun k => match k with
  | 0 => ("NamesInBags$Rule", "kinds", "[I", true)
  | 1 => ("NamesInBags$Rule", "spans", "[I", true)
  | 2 => ("NamesInBags$Rule", "fates", "[I", true)
  | _ => ("NamesInBags$Rule", "lines", "I", false)
def nm_F4 : u_T := fun k => match k with
  | 0 => ("NamesInBags$Table", "slips", "[J", true)
  | 1 => ("NamesInBags$Table", "sats", "[I", true)
  | 2 => ("NamesInBags$Table", "chances", "[J", true)
  | 3 => ("NamesInBags$Table", "size", "I", false)
  | 4 => ("NamesInBags$Table", "heads", "[I", true)
  | _ => ("NamesInBags$Table", "links", "[I", true)
def nm_F5 : u_T := fun k => match k with
  | 0 => ("NamesInBags$Text", "signs", "[I", true)
  | _ => ("NamesInBags$Text", "length", "I", false)
def nm_F6 : u_T := fun k => match k with
  | 0 => ("NamesInBags$Town", "persons", "I", false)
  | 1 => ("NamesInBags$Town", "houses", "[I", true)
  | 2 => ("NamesInBags$Town", "debts", "[I", true)
  | 3 => ("NamesInBags$Town", "awayFrom", "[I", true)
  | 4 => ("NamesInBags$Town", "awayTo", "[I", true)
  | 5 => ("NamesInBags$Town", "deaths", "[I", true)
  | 6 => ("NamesInBags$Town", "packed", "[I", true)
  | 7 => ("NamesInBags$Town", "renewed", "[Z", true)
  | 8 => ("NamesInBags$Town", "drawings", "I", false)
  | 9 => ("NamesInBags$Town", "days", "[I", true)
  | 10 => ("NamesInBags$Town", "bags", "[I", true)
  | _ => ("NamesInBags$Town", "seats", "[I", true)
def nm_F7 : u_T := fun k => match k with
  | 0 => ("NamesInBags$Walk", "now", "LNamesInBags$Table;", false)
  | 1 => ("NamesInBags$Walk", "behind", "LNamesInBags$Table;", false)
  | 2 => ("NamesInBags$Walk", "ends", "LNamesInBags$Table;", false)
  | 3 => ("NamesInBags$Walk", "chest", "LNamesInBags$Chest;", true)
  | 4 => ("NamesInBags$Walk", "draws", "J", false)
  | _ => ("NamesInBags$Walk", "drawsInVain", "J", false)
def nm_F8 : u_T := fun k => match k with
  | 0 => ("NamesInBags", "town", "LNamesInBags$Town;", true)
  | 1 => ("NamesInBags", "text", "LNamesInBags$Text;", true)
  | 2 => ("NamesInBags", "rule", "LNamesInBags$Rule;", true)
  | 3 => ("NamesInBags", "others", "[LNamesInBags$Rule;", true)
  | 4 => ("NamesInBags", "othersTold", "I", false)
  | 5 => ("NamesInBags", "chest", "LNamesInBags$Chest;", true)
  | 6 => ("NamesInBags", "supposed", "LNamesInBags$Chest;", true)
  | 7 => ("NamesInBags", "course", "LNamesInBags$Course;", true)
  | 8 => ("NamesInBags", "walk", "LNamesInBags$Walk;", true)
  | 9 => ("NamesInBags", "told", "LNamesInBags$Row;", true)
  | 10 => ("NamesInBags", "drawnSlips", "[I", true)
  | 11 => ("NamesInBags", "random", "I", false)
  | 12 => ("NamesInBags", "keptChests", "[LNamesInBags$Chest;", true)
  | 13 => ("NamesInBags", "keptRandoms", "[I", true)
  | 14 => ("NamesInBags", "keptBits", "I", false)
  | 15 => ("NamesInBags", "listed", "[I", true)
  | _ => ("NamesInBags", "listedCount", "I", false)
def nm_F9 : u_T := fun k => match k with
  | 0 => ("NamesInBagsModel", "thrown", "I", false)
  | 1 => ("NamesInBagsModel", "rows", "I", false)
  | 2 => ("NamesInBagsModel", "row", "[J", true)
  | 3 => ("NamesInBagsModel", "persons", "I", false)
  | 4 => ("NamesInBagsModel", "home", "[I", true)
  | 5 => ("NamesInBagsModel", "owes", "[I", true)
  | 6 => ("NamesInBagsModel", "goneFrom", "[I", true)
  | 7 => ("NamesInBagsModel", "goneTo", "[I", true)
  | 8 => ("NamesInBagsModel", "dead", "[I", true)
  | 9 => ("NamesInBagsModel", "packed", "[I", true)
  | 10 => ("NamesInBagsModel", "isRenewed", "[Z", true)
  | 11 => ("NamesInBagsModel", "drawings", "I", false)
  | 12 => ("NamesInBagsModel", "dayOf", "[I", true)
  | 13 => ("NamesInBagsModel", "bagOf", "[I", true)
  | 14 => ("NamesInBagsModel", "seatsOf", "[I", true)
  | 15 => ("NamesInBagsModel", "ruleNow", "I", false)
  | 16 => ("NamesInBagsModel", "lines", "[I", true)
  | 17 => ("NamesInBagsModel", "isTold", "[Z", true)
  | 18 => ("NamesInBagsModel", "lineKind", "[I", true)
  | 19 => ("NamesInBagsModel", "lineDoes", "[I", true)
  | 20 => ("NamesInBagsModel", "allAway", "I", false)
  | 21 => ("NamesInBagsModel", "tape", "[I", true)
  | 22 => ("NamesInBagsModel", "taped", "I", false)
  | 23 => ("NamesInBagsModel", "at", "I", false)
  | 24 => ("NamesInBagsModel", "to", "I", false)
  | 25 => ("NamesInBagsModel", "readKind", "[I", true)
  | 26 => ("NamesInBagsModel", "readDoes", "[I", true)
  | 27 => ("NamesInBagsModel", "read", "I", false)
  | 28 => ("NamesInBagsModel", "inBag", "[I", true)
  | 29 => ("NamesInBagsModel", "aside", "[I", true)
  | 30 => ("NamesInBagsModel", "satLast", "[I", true)
  | 31 => ("NamesInBagsModel", "next", "I", false)
  | 32 => ("NamesInBagsModel", "putBy", "I", false)
  | 33 => ("NamesInBagsModel", "sitting", "I", false)
  | 34 => ("NamesInBagsModel", "nowFirst", "J", false)
  | 35 => ("NamesInBagsModel", "nowSecond", "J", false)
  | 36 => ("NamesInBagsModel", "nowNext", "I", false)
  | 37 => ("NamesInBagsModel", "random", "I", false)
  | 38 => ("NamesInBagsModel", "sits", "[I", true)
  | 39 => ("NamesInBagsModel", "slips", "[I", true)
  | 40 => ("NamesInBagsModel", "one", "[J", true)
  | 41 => ("NamesInBagsModel", "other", "[J", true)
  | 42 => ("NamesInBagsModel", "part", "[J", true)
  | 43 => ("NamesInBagsModel", "size", "[I", true)
  | 44 => ("NamesInBagsModel", "hash", "[I", true)
  | 45 => ("NamesInBagsModel", "drawnSum", "J", false)
  | 46 => ("NamesInBagsModel", "vainSum", "J", false)
  | 47 => ("NamesInBagsModel", "satBits", "[I", true)
  | 48 => ("NamesInBagsModel", "wasPacked", "I", false)
  | 49 => ("NamesInBagsModel", "listed", "I", false)
  | 50 => ("NamesInBagsModel", "listedBits", "[I", true)
  | 51 => ("NamesInBagsModel", "isKept", "[Z", true)
  | 52 => ("NamesInBagsModel", "keptFirst", "[J", true)
  | 53 => ("NamesInBagsModel", "keptSecond", "[J", true)
  | 54 => ("NamesInBagsModel", "keptNext", "[I", true)
  | _ => ("NamesInBagsModel", "keptRandom", "[I", true)
abbrev nm_cl : List vw_C := [("NamesInBags$Chest", nm_F0, 3), ("NamesInBags$Course", nm_F1, 14), ("NamesInBags$Row", nm_F2, 2), ("NamesInBags$Rule", nm_F3, 4), ("NamesInBags$Table", nm_F4, 6), ("NamesInBags$Text", nm_F5, 2), ("NamesInBags$Town", nm_F6, 12), ("NamesInBags$Walk", nm_F7, 6), ("NamesInBags", nm_F8, 17), ("NamesInBagsModel", nm_F9, 56)]
def nm_T : px_T := ([.int, .int, .int, .int, .int, .long, .long, .int, .long, .int, .int, .int, .int, .int, .int, .int, .int, .int, .boolean, .int, .int, .int, .object "NamesInBags$Rule", .int, .object "NamesInBags$Chest", .int, .int, .long, .int, .int, .int, .int, .int, .int, .boolean, .int, .int, .int, .int, .boolean, .int, .int, .int, .int, .int, .int, .int, .int, .int, .int, .long, .long, .long, .int, .int, .int, .int, .boolean, .long, .long, .int, .int, .long], [(3, [.long, .int, .int]), (14, [.object "NamesInBags$Town", .object "NamesInBags$Rule", .array (.int), .int, .int, .int, .int, .int, .int, .int, .array (.int), .int, .int, .int]), (2, [.array (.long), .int]), (4, [.array (.int), .array (.int), .array (.int), .int]), (6, [.array (.long), .array (.int), .array (.long), .int, .array (.int), .array (.int)]), (2, [.array (.int), .int]), (12, [.int, .array (.int), .array (.int), .array (.int), .array (.int), .array (.int), .array (.int), .array (.boolean), .int, .array (.int), .array (.int), .array (.int)]), (6, [.object "NamesInBags$Table", .object "NamesInBags$Table", .object "NamesInBags$Table", .object "NamesInBags$Chest", .long, .long]), (17, [.object "NamesInBags$Town", .object "NamesInBags$Text", .object "NamesInBags$Rule", .array (.object "NamesInBags$Rule"), .int, .object "NamesInBags$Chest", .object "NamesInBags$Chest", .object "NamesInBags$Course", .object "NamesInBags$Walk", .object "NamesInBags$Row", .array (.int), .int, .array (.object "NamesInBags$Chest"), .array (.int), .int, .array (.int), .int]), (56, [.int, .int, .array (.long), .int, .array (.int), .array (.int), .array (.int), .array (.int), .array (.int), .array (.int), .array (.boolean), .int, .array (.int), .array (.int), .array (.int), .int, .array (.int), .array (.boolean), .array (.int), .array (.int), .int, .array (.int), .int, .int, .int, .array (.int), .array (.int), .int, .array (.int), .array (.int), .array (.int), .int, .int, .int, .long, .long, .int, .int, .array (.int), .array (.int), .array (.long), .array (.long), .array (.long), .array (.int), .array (.int), .long, .long, .array (.int), .int, .int, .array (.int), .array (.boolean), .array (.long), .array (.long), .array (.int), .array (.int)])])
/-- NamesInBags$Chest.<init>()V -/
def nm_m0 : px_M := (⟨"NamesInBags$Chest", "<init>", "()V"⟩, prog_2_method_1_code, 1, none, { frames := 1, cells := 0, slots := 0, locals := 20 }, [(0, 1, .aload_n 0), (1, 3, .invokespecial 3), (4, 1, .return_)], [(3, 7, 0, 0, 0)])
/-- NamesInBags$Chest.copy(LNamesInBags$Chest;)V -/
def nm_m1 : px_M := (⟨"NamesInBags$Chest", "copy", "(LNamesInBags$Chest;)V"⟩, prog_2_method_2_code, 2, none, { frames := 0, cells := 0, slots := 0, locals := 0 }, [(0, 1, .aload_n 0), (1, 1, .aload_n 1), (2, 3, .getfield 9), (5, 3, .putfield 9), (8, 1, .aload_n 0), (9, 1, .aload_n 1), (10, 3, .getfield 15), (13, 3, .putfield 15), (16, 1, .aload_n 0), (17, 1, .aload_n 1), (18, 3, .getfield 19), (21, 3, .putfield 19), (24, 1, .return_)], [(9, 0, 0, 0, 0), (15, 0, 0, 1, 0), (19, 0, 0, 2, 0)])
/-- NamesInBags$Chest.lay(JI)V -/
def nm_m2 : px_M := (⟨"NamesInBags$Chest", "lay", "(JI)V"⟩, prog_2_method_3_code, 4, none, { frames := 0, cells := 0, slots := 0, locals := 0 }, [(0, 1, .aload_n 0), (1, 1, .lload_n 1), (2, 3, .putfield 9), (5, 1, .aload_n 0), (6, 1, .iload_n 3), (7, 3, .putfield 15), (10, 1, .return_)], [(9, 0, 0, 0, 0), (15, 0, 0, 1, 0)])
/-- NamesInBags$Chest.setPart(II)V -/
def nm_m3 : px_M := (⟨"NamesInBags$Chest", "setPart", "(II)V"⟩, prog_2_method_6_code, 4, none, { frames := 0, cells := 0, slots := 0, locals := 0 }, [(0, 2, .bipush 10), (2, 1, .iload_n 1), (3, 1, .imul), (4, 1, .istore_n 3), (5, 1, .aload_n 0), (6, 1, .aload_n 0), (7, 3, .getfield 9), (10, 3, .ldc2_w 26), (13, 1, .iload_n 3), (14, 1, .lshl), (15, 3, .ldc2_w 28), (18, 1, .lxor), (19, 1, .land), (20, 1, .iload_n 2), (21, 1, .i2l), (22, 1, .iload_n 3), (23, 1, .lshl), (24, 1, .lor), (25, 3, .putfield 9), (28, 1, .return_)], [(9, 0, 0, 0, 0), (26, 4, 0, 0, 1023), (28, 4, 0, 0, (-1))])
/-- NamesInBags$Chest.startAnew(II)V -/
def nm_m4 : px_M := (⟨"NamesInBags$Chest", "startAnew", "(II)V"⟩, prog_2_method_4_code, 3, none, { frames := 1, cells := 0, slots := 0, locals := 23 }, [(0, 1, .aload_n 0), (1, 1, .lconst 0), (2, 3, .putfield 9), (5, 1, .aload_n 0), (6, 1, .iconst 0), (7, 3, .putfield 15), (10, 1, .aload_n 0), (11, 1, .iconst 0), (12, 3, .putfield 19), (15, 1, .aload_n 0), (16, 1, .iconst 0), (17, 1, .iload_n 1), (18, 3, .invokevirtual 22), (21, 1, .aload_n 0), (22, 1, .iconst 1), (23, 1, .iload_n 2), (24, 3, .invokevirtual 22), (27, 1, .return_)], [(9, 0, 0, 0, 0), (15, 0, 0, 1, 0), (19, 0, 0, 2, 0), (22, 1, 3, 2, 0)])
/-- NamesInBags$Chest.part(I)I -/
def nm_m5 : px_M := (⟨"NamesInBags$Chest", "part", "(I)I"⟩, prog_2_method_5_code, 2, (some .int), { frames := 0, cells := 0, slots := 0, locals := 0 }, [(0, 1, .aload_n 0), (1, 3, .getfield 9), (4, 2, .bipush 10), (6, 1, .iload_n 1), (7, 1, .imul), (8, 1, .lushr), (9, 1, .l2i), (10, 3, .sipush 1023), (13, 1, .iand), (14, 1, .ireturn)], [(9, 0, 0, 0, 0)])
/-- NamesInBags$Course.kinOf(I)I -/
def nm_m6 : px_M := (⟨"NamesInBags$Course", "kinOf", "(I)I"⟩, prog_3_method_8_code, 4, (some .int), { frames := 0, cells := 0, slots := 0, locals := 0 }, [(0, 1, .iconst 0), (1, 1, .istore_n 2), (2, 1, .iconst 0), (3, 1, .istore_n 3), (4, 1, .iload_n 3), (5, 1, .aload_n 0), (6, 3, .getfield 25), (9, 3, .getfield 75), (12, 3, .if_icmp .ge 30), (15, 1, .iload_n 1), (16, 3, .ifCond .eq 26), (19, 1, .iload_n 1), (20, 1, .iload_n 3), (21, 1, .ishr), (22, 1, .iconst 1), (23, 1, .iand), (24, 3, .ifCond .eq 12), (27, 1, .iload_n 2), (28, 1, .aload_n 0), (29, 3, .getfield 22), (32, 1, .iload_n 3), (33, 1, .iaload), (34, 1, .ior), (35, 1, .istore_n 2), (36, 3, .iinc 3 1), (39, 3, .goto (-35)), (42, 1, .iload_n 2), (43, 1, .ireturn)], [(22, 0, 1, 10, 3), (25, 0, 1, 0, 3), (75, 0, 6, 0, 0)])
/-- NamesInBags$Course.satSince(II)I -/
def nm_m7 : px_M := (⟨"NamesInBags$Course", "satSince", "(II)I"⟩, prog_3_method_9_code, 6, (some .int), { frames := 0, cells := 0, slots := 0, locals := 0 }, [(0, 1, .iconst 0), (1, 1, .istore_n 3), (2, 1, .iconst 0), (3, 2, .istore 4), (5, 2, .iload 4), (7, 1, .aload_n 0), (8, 3, .getfield 25), (11, 3, .getfield 75), (14, 3, .if_icmp .ge 49), (17, 1, .iload_n 2), (18, 1, .iconst 3), (19, 2, .iload 4), (21, 1, .imul), (22, 1, .iushr), (23, 2, .bipush 7), (25, 1, .iand), (26, 1, .iconst 1), (27, 1, .isub), (28, 2, .istore 5), (30, 2, .iload 5), (32, 3, .ifCond .lt 25), (35, 2, .iload 5), (37, 1, .iload_n 1), (38, 3, .if_icmp .lt 19), (41, 2, .iload 5), (43, 1, .aload_n 0), (44, 3, .getfield 42), (47, 3, .if_icmp .ge 10), (50, 1, .iload_n 3), (51, 1, .iconst 1), (52, 2, .iload 4), (54, 1, .ishl), (55, 1, .ior), (56, 1, .istore_n 3), (57, 3, .iinc 4 1), (60, 3, .goto (-55)), (63, 1, .iload_n 3), (64, 1, .ireturn)], [(25, 0, 1, 0, 3), (42, 0, 1, 4, 0), (75, 0, 6, 0, 0)])
/-- NamesInBags$Course.barredBy(III)I -/
def nm_m8 : px_M := (⟨"NamesInBags$Course", "barredBy", "(III)I"⟩, prog_3_method_7_code, 4, (some .int), { frames := 1, cells := 0, slots := 0, locals := 25 }, [(0, 1, .aload_n 0), (1, 3, .getfield 12), (4, 3, .getfield 103), (7, 1, .iload_n 1), (8, 1, .iaload), (9, 35, .lookupswitch 66 #[(100, 61), (107, 35), (115, 41)]), (44, 1, .aload_n 0), (45, 1, .iload_n 2), (46, 3, .invokevirtual 106), (49, 1, .ireturn), (50, 1, .aload_n 0), (51, 1, .aload_n 0), (52, 3, .getfield 42), (55, 1, .aload_n 0), (56, 3, .getfield 12), (59, 3, .getfield 109), (62, 1, .iload_n 1), (63, 1, .iaload), (64, 1, .isub), (65, 1, .iload_n 3), (66, 3, .invokevirtual 112), (69, 1, .ireturn), (70, 1, .aload_n 0), (71, 3, .getfield 66), (74, 1, .ireturn), (75, 1, .aload_n 0), (76, 3, .getfield 72), (79, 1, .ireturn)], [(12, 0, 1, 1, 0), (42, 0, 1, 4, 0), (66, 0, 1, 8, 0), (72, 0, 1, 9, 0), (103, 0, 3, 0, 3), (106, 1, 6, 1, 1), (109, 0, 3, 1, 3), (112, 1, 7, 2, 1)])
/-- NamesInBags$Course.barredAtFirst(I)I -/
def nm_m9 : px_M := (⟨"NamesInBags$Course", "barredAtFirst", "(I)I"⟩, prog_3_method_5_code, 4, (some .int), { frames := 2, cells := 0, slots := 0, locals := 48 }, [(0, 1, .iconst 0), (1, 1, .istore_n 2), (2, 1, .iconst 0), (3, 1, .istore_n 3), (4, 1, .iload_n 3), (5, 1, .aload_n 0), (6, 3, .getfield 12), (9, 3, .getfield 84), (12, 3, .if_icmp .ge 19), (15, 1, .iload_n 2), (16, 1, .aload_n 0), (17, 1, .iload_n 3), (18, 1, .iconst 0), (19, 1, .iload_n 1), (20, 3, .invokevirtual 87), (23, 1, .ior), (24, 1, .istore_n 2), (25, 3, .iinc 3 1), (28, 3, .goto (-24)), (31, 1, .iload_n 2), (32, 1, .ireturn)], [(12, 0, 1, 1, 0), (84, 0, 3, 3, 0), (87, 1, 8, 3, 1)])
/-- NamesInBags$Chest.open(LNamesInBags$Course;)V -/
def nm_m10 : px_M := (⟨"NamesInBags$Chest", "open", "(LNamesInBags$Course;)V"⟩, prog_2_method_7_code, 5, none, { frames := 3, cells := 0, slots := 0, locals := 71 }, [(0, 1, .aload_n 0), (1, 1, .iconst 5), (2, 1, .iconst 0), (3, 3, .invokevirtual 22), (6, 1, .aload_n 1), (7, 3, .getfield 30), (10, 1, .istore_n 2), (11, 1, .aload_n 0), (12, 1, .iload_n 2), (13, 3, .invokevirtual 35), (16, 3, .ifCond .ne 35), (19, 1, .aload_n 1), (20, 3, .getfield 39), (23, 3, .getfield 43), (26, 1, .iload_n 2), (27, 1, .baload), (28, 3, .ifCond .eq 23), (31, 1, .aload_n 0), (32, 1, .iload_n 2), (33, 1, .aload_n 1), (34, 3, .getfield 49), (37, 1, .iload_n 2), (38, 1, .iaload), (39, 3, .invokevirtual 22), (42, 1, .aload_n 0), (43, 1, .iconst 2), (44, 1, .iload_n 2), (45, 1, .iadd), (46, 1, .iconst 0), (47, 3, .invokevirtual 22), (50, 1, .return_), (51, 1, .aload_n 0), (52, 1, .iconst 2), (53, 1, .iload_n 2), (54, 1, .iadd), (55, 3, .invokevirtual 35), (58, 1, .istore_n 3), (59, 1, .iload_n 3), (60, 3, .ifCond .eq 43), (63, 1, .iload_n 3), (64, 1, .aload_n 1), (65, 1, .aload_n 0), (66, 3, .getfield 15), (69, 3, .invokevirtual 53), (72, 1, .iconst (-1)), (73, 1, .ixor), (74, 1, .iand), (75, 2, .istore 4), (77, 1, .aload_n 0), (78, 1, .iload_n 2), (79, 1, .aload_n 0), (80, 1, .iload_n 2), (81, 3, .invokevirtual 35), (84, 2, .iload 4), (86, 1, .ior), (87, 3, .invokevirtual 22), (90, 1, .aload_n 0), (91, 1, .iconst 2), (92, 1, .iload_n 2), (93, 1, .iadd), (94, 1, .iload_n 3), (95, 2, .iload 4), (97, 1, .iconst (-1)), (98, 1, .ixor), (99, 1, .iand), (100, 3, .invokevirtual 22), (103, 1, .return_)], [(15, 0, 0, 1, 0), (22, 1, 3, 2, 0), (30, 0, 1, 5, 0), (35, 1, 5, 1, 0), (39, 0, 1, 0, 3), (43, 0, 6, 7, 3), (49, 0, 1, 2, 3), (53, 1, 9, 1, 1)])
/-- java/lang/Integer.bitCount(I)I -/
def nm_m11 : px_M := (⟨"java/lang/Integer", "bitCount", "(I)I"⟩, prog_14_method_49_code, 1, (some .int), { frames := 0, cells := 0, slots := 0, locals := 0 }, [(0, 1, .iload_n 0), (1, 1, .iload_n 0), (2, 1, .iconst 1), (3, 1, .iushr), (4, 3, .ldc_w 265), (7, 1, .iand), (8, 1, .isub), (9, 1, .istore_n 0), (10, 1, .iload_n 0), (11, 3, .ldc_w 266), (14, 1, .iand), (15, 1, .iload_n 0), (16, 1, .iconst 2), (17, 1, .iushr), (18, 3, .ldc_w 266), (21, 1, .iand), (22, 1, .iadd), (23, 1, .istore_n 0), (24, 1, .iload_n 0), (25, 1, .iload_n 0), (26, 1, .iconst 4), (27, 1, .iushr), (28, 1, .iadd), (29, 3, .ldc_w 267), (32, 1, .iand), (33, 1, .istore_n 0), (34, 1, .iload_n 0), (35, 1, .iload_n 0), (36, 2, .bipush 8), (38, 1, .iushr), (39, 1, .iadd), (40, 1, .istore_n 0), (41, 1, .iload_n 0), (42, 1, .iload_n 0), (43, 2, .bipush 16), (45, 1, .iushr), (46, 1, .iadd), (47, 1, .istore_n 0), (48, 1, .iload_n 0), (49, 2, .bipush 63), (51, 1, .iand), (52, 1, .ireturn)], [(265, 3, 0, 0, 1431655765), (266, 3, 0, 0, 858993459), (267, 3, 0, 0, 252645135)])
/-- NamesInBags$Chest.isOver(LNamesInBags$Course;)Z -/
def nm_m12 : px_M := (⟨"NamesInBags$Chest", "isOver", "(LNamesInBags$Course;)Z"⟩, prog_2_method_8_code, 2, (some .boolean), { frames := 1, cells := 0, slots := 0, locals := 21 }, [(0, 1, .aload_n 0), (1, 1, .aload_n 1), (2, 3, .getfield 30), (5, 3, .invokevirtual 35), (8, 3, .ifCond .eq 18), (11, 1, .aload_n 0), (12, 1, .iconst 5), (13, 3, .invokevirtual 35), (16, 3, .invokestatic 56), (19, 1, .aload_n 1), (20, 3, .getfield 61), (23, 3, .if_icmp .lt 7), (26, 1, .iconst 1), (27, 3, .goto 4), (30, 1, .iconst 0), (31, 1, .ireturn)], [(30, 0, 1, 5, 0), (35, 1, 5, 1, 0), (56, 2, 11, 1, 0), (61, 0, 1, 6, 0)])
/-- NamesInBags$Chest.takeOut(LNamesInBags$Course;I)Z -/
def nm_m13 : px_M := (⟨"NamesInBags$Chest", "takeOut", "(LNamesInBags$Course;I)Z"⟩, prog_2_method_9_code, 6, (some .boolean), { frames := 0, cells := 0, slots := 0, locals := 0 }, [(0, 1, .lconst 1), (1, 1, .iload_n 2), (2, 1, .lshl), (3, 1, .lstore_n 3), (4, 2, .bipush 10), (6, 1, .aload_n 1), (7, 3, .getfield 30), (10, 1, .imul), (11, 2, .istore 5), (13, 1, .aload_n 0), (14, 1, .dup), (15, 3, .getfield 9), (18, 1, .lload_n 3), (19, 2, .iload 5), (21, 1, .lshl), (22, 3, .ldc2_w 28), (25, 1, .lxor), (26, 1, .land), (27, 3, .putfield 9), (30, 1, .aload_n 1), (31, 3, .getfield 64), (34, 1, .iload_n 2), (35, 1, .ishr), (36, 1, .iconst 1), (37, 1, .iand), (38, 3, .ifCond .eq 46), (41, 1, .aload_n 0), (42, 1, .dup), (43, 3, .getfield 9), (46, 1, .lload_n 3), (47, 2, .bipush 50), (49, 1, .lshl), (50, 1, .lor), (51, 3, .putfield 9), (54, 1, .aload_n 0), (55, 1, .aload_n 0), (56, 3, .getfield 15), (59, 2, .bipush 7), (61, 1, .iconst 3), (62, 1, .iload_n 2), (63, 1, .imul), (64, 1, .ishl), (65, 1, .iconst (-1)), (66, 1, .ixor), (67, 1, .iand), (68, 1, .aload_n 1), (69, 3, .getfield 67), (72, 1, .iconst 1), (73, 1, .iadd), (74, 1, .iconst 3), (75, 1, .iload_n 2), (76, 1, .imul), (77, 1, .ishl), (78, 1, .ior), (79, 3, .putfield 15), (82, 1, .iconst 1), (83, 1, .ireturn), (84, 1, .aload_n 1), (85, 3, .getfield 70), (88, 1, .iload_n 2), (89, 1, .ishr), (90, 1, .iconst 1), (91, 1, .iand), (92, 3, .ifCond .eq 19), (95, 1, .aload_n 0), (96, 1, .dup), (97, 3, .getfield 9), (100, 1, .lload_n 3), (101, 2, .bipush 40), (103, 1, .lshl), (104, 1, .lor), (105, 3, .putfield 9), (108, 3, .goto 30), (111, 1, .aload_n 1), (112, 3, .getfield 73), (115, 1, .iload_n 2), (116, 1, .ishr), (117, 1, .iconst 1), (118, 1, .iand), (119, 3, .ifCond .eq 19), (122, 1, .aload_n 0), (123, 1, .dup), (124, 3, .getfield 9), (127, 1, .lload_n 3), (128, 2, .bipush 20), (130, 2, .iload 5), (132, 1, .iadd), (133, 1, .lshl), (134, 1, .lor), (135, 3, .putfield 9), (138, 1, .iconst 0), (139, 1, .ireturn)], [(9, 0, 0, 0, 0), (15, 0, 0, 1, 0), (28, 4, 0, 0, (-1)), (30, 0, 1, 5, 0), (64, 0, 1, 11, 0), (67, 0, 1, 4, 0), (70, 0, 1, 12, 0), (73, 0, 1, 13, 0)])
/-- NamesInBags$Chest.close(LNamesInBags$Course;)V -/
def nm_m14 : px_M := (⟨"NamesInBags$Chest", "close", "(LNamesInBags$Course;)V"⟩, prog_2_method_10_code, 2, none, { frames := 1, cells := 0, slots := 0, locals := 23 }, [(0, 1, .aload_n 0), (1, 1, .aload_n 1), (2, 3, .getfield 30), (5, 1, .aload_n 0), (6, 1, .aload_n 1), (7, 3, .getfield 30), (10, 3, .invokevirtual 35), (13, 1, .aload_n 0), (14, 1, .iconst 4), (15, 3, .invokevirtual 35), (18, 1, .ior), (19, 3, .invokevirtual 22), (22, 1, .aload_n 0), (23, 1, .iconst 4), (24, 1, .iconst 0), (25, 3, .invokevirtual 22), (28, 1, .return_)], [(22, 1, 3, 2, 0), (30, 0, 1, 5, 0), (35, 1, 5, 1, 0)])
/-- NamesInBags$Rule.<init>()V -/
def nm_m15 : px_M := (⟨"NamesInBags$Rule", "<init>", "()V"⟩, prog_5_method_1_code, 1, none, { frames := 1, cells := 3, slots := 21, locals := 20 }, [(0, 1, .aload_n 0), (1, 3, .invokespecial 3), (4, 1, .aload_n 0), (5, 2, .bipush 7), (7, 2, .newarray .int), (9, 3, .putfield 9), (12, 1, .aload_n 0), (13, 2, .bipush 7), (15, 2, .newarray .int), (17, 3, .putfield 15), (20, 1, .aload_n 0), (21, 2, .bipush 7), (23, 2, .newarray .int), (25, 3, .putfield 18), (28, 1, .return_)], [(3, 7, 0, 0, 0), (9, 0, 3, 0, 2), (15, 0, 3, 1, 2), (18, 0, 3, 2, 2), (100007, 6, 0, 0, 0), (100015, 6, 1, 0, 0), (100023, 6, 2, 0, 0)])
/-- NamesInBags$Course.<init>(LNamesInBags$Town;)V -/
def nm_m16 : px_M := (⟨"NamesInBags$Course", "<init>", "(LNamesInBags$Town;)V"⟩, prog_3_method_1_code, 2, none, { frames := 2, cells := 6, slots := 37, locals := 40 }, [(0, 1, .aload_n 0), (1, 3, .invokespecial 3), (4, 1, .aload_n 0), (5, 3, .new 9), (8, 1, .dup), (9, 3, .invokespecial 11), (12, 3, .putfield 12), (15, 1, .aload_n 0), (16, 1, .iconst 2), (17, 2, .newarray .int), (19, 3, .putfield 18), (22, 1, .aload_n 0), (23, 2, .bipush 10), (25, 2, .newarray .int), (27, 3, .putfield 22), (30, 1, .aload_n 0), (31, 1, .aload_n 1), (32, 3, .putfield 25), (35, 1, .return_)], [(3, 7, 0, 0, 0), (9, 5, 3, 0, 0), (11, 8, 15, 0, 3), (12, 0, 1, 1, 0), (18, 0, 1, 2, 2), (22, 0, 1, 10, 2), (25, 0, 1, 0, 2), (100017, 6, 3, 0, 0), (100025, 6, 4, 0, 0)])
/-- NamesInBags$Course.set(LNamesInBags$Rule;III)V -/
def nm_m17 : px_M := (⟨"NamesInBags$Course", "set", "(LNamesInBags$Rule;III)V"⟩, prog_3_method_2_code, 5, none, { frames := 0, cells := 0, slots := 0, locals := 0 }, [(0, 1, .aload_n 0), (1, 1, .aload_n 1), (2, 3, .putfield 12), (5, 1, .aload_n 0), (6, 3, .getfield 18), (9, 1, .iconst 0), (10, 1, .iload_n 2), (11, 1, .iastore), (12, 1, .aload_n 0), (13, 3, .getfield 18), (16, 1, .iconst 1), (17, 1, .iload_n 3), (18, 1, .iastore), (19, 1, .aload_n 0), (20, 2, .iload 4), (22, 3, .putfield 29), (25, 1, .return_)], [(12, 0, 1, 1, 0), (18, 0, 1, 2, 3), (29, 0, 1, 3, 0)])
/-- NamesInBags$Town.hasDrawing(I)Z -/
def nm_m18 : px_M := (⟨"NamesInBags$Town", "hasDrawing", "(I)Z"⟩, prog_8_method_7_code, 2, (some .boolean), { frames := 0, cells := 0, slots := 0, locals := 0 }, [(0, 1, .iload_n 1), (1, 3, .ifCond .lt 15), (4, 1, .iload_n 1), (5, 1, .aload_n 0), (6, 3, .getfield 47), (9, 3, .if_icmp .ge 7), (12, 1, .iconst 1), (13, 3, .goto 4), (16, 1, .iconst 0), (17, 1, .ireturn)], [(47, 0, 6, 8, 0)])
/-- NamesInBags$Town.deadOn(I)I -/
def nm_m19 : px_M := (⟨"NamesInBags$Town", "deadOn", "(I)I"⟩, prog_8_method_10_code, 4, (some .int), { frames := 0, cells := 0, slots := 0, locals := 0 }, [(0, 1, .iconst 0), (1, 1, .istore_n 2), (2, 1, .iconst 0), (3, 1, .istore_n 3), (4, 1, .iload_n 3), (5, 1, .aload_n 0), (6, 3, .getfield 43), (9, 3, .if_icmp .ge 25), (12, 1, .iload_n 1), (13, 1, .aload_n 0), (14, 3, .getfield 24), (17, 1, .iload_n 3), (18, 1, .iaload), (19, 3, .if_icmp .lt 9), (22, 1, .iload_n 2), (23, 1, .iconst 1), (24, 1, .iload_n 3), (25, 1, .ishl), (26, 1, .ior), (27, 1, .istore_n 2), (28, 3, .iinc 3 1), (31, 3, .goto (-27)), (34, 1, .iload_n 2), (35, 1, .ireturn)], [(24, 0, 6, 5, 3), (43, 0, 6, 0, 0)])
/-- NamesInBags$Town.indebtedOn(I)I -/
def nm_m20 : px_M := (⟨"NamesInBags$Town", "indebtedOn", "(I)I"⟩, prog_8_method_11_code, 4, (some .int), { frames := 0, cells := 0, slots := 0, locals := 0 }, [(0, 1, .iconst 0), (1, 1, .istore_n 2), (2, 1, .iconst 0), (3, 1, .istore_n 3), (4, 1, .iload_n 3), (5, 1, .aload_n 0), (6, 3, .getfield 43), (9, 3, .if_icmp .ge 25), (12, 1, .iload_n 1), (13, 1, .aload_n 0), (14, 3, .getfield 15), (17, 1, .iload_n 3), (18, 1, .iaload), (19, 3, .if_icmp .ge 9), (22, 1, .iload_n 2), (23, 1, .iconst 1), (24, 1, .iload_n 3), (25, 1, .ishl), (26, 1, .ior), (27, 1, .istore_n 2), (28, 3, .iinc 3 1), (31, 3, .goto (-27)), (34, 1, .iload_n 2), (35, 1, .ireturn)], [(15, 0, 6, 2, 3), (43, 0, 6, 0, 0)])
/-- NamesInBags$Town.awayOn(I)I -/
def nm_m21 : px_M := (⟨"NamesInBags$Town", "awayOn", "(I)I"⟩, prog_8_method_12_code, 4, (some .int), { frames := 0, cells := 0, slots := 0, locals := 0 }, [(0, 1, .iconst 0), (1, 1, .istore_n 2), (2, 1, .iconst 0), (3, 1, .istore_n 3), (4, 1, .iload_n 3), (5, 1, .aload_n 0), (6, 3, .getfield 43), (9, 3, .if_icmp .ge 35), (12, 1, .iload_n 1), (13, 1, .aload_n 0), (14, 3, .getfield 18), (17, 1, .iload_n 3), (18, 1, .iaload), (19, 3, .if_icmp .lt 19), (22, 1, .iload_n 1), (23, 1, .aload_n 0), (24, 3, .getfield 21), (27, 1, .iload_n 3), (28, 1, .iaload), (29, 3, .if_icmp .gt 9), (32, 1, .iload_n 2), (33, 1, .iconst 1), (34, 1, .iload_n 3), (35, 1, .ishl), (36, 1, .ior), (37, 1, .istore_n 2), (38, 3, .iinc 3 1), (41, 3, .goto (-37)), (44, 1, .iload_n 2), (45, 1, .ireturn)], [(18, 0, 6, 3, 3), (21, 0, 6, 4, 3), (43, 0, 6, 0, 0)])
/-- NamesInBags$Town.ofHouse(I)I -/
def nm_m22 : px_M := (⟨"NamesInBags$Town", "ofHouse", "(I)I"⟩, prog_8_method_9_code, 4, (some .int), { frames := 0, cells := 0, slots := 0, locals := 0 }, [(0, 1, .iconst 0), (1, 1, .istore_n 2), (2, 1, .iconst 0), (3, 1, .istore_n 3), (4, 1, .iload_n 3), (5, 1, .aload_n 0), (6, 3, .getfield 43), (9, 3, .if_icmp .ge 25), (12, 1, .aload_n 0), (13, 3, .getfield 9), (16, 1, .iload_n 3), (17, 1, .iaload), (18, 1, .iload_n 1), (19, 3, .if_icmp .ne 9), (22, 1, .iload_n 2), (23, 1, .iconst 1), (24, 1, .iload_n 3), (25, 1, .ishl), (26, 1, .ior), (27, 1, .istore_n 2), (28, 3, .iinc 3 1), (31, 3, .goto (-27)), (34, 1, .iload_n 2), (35, 1, .ireturn)], [(9, 0, 6, 1, 3), (43, 0, 6, 0, 0)])
/-- NamesInBags$Course.ready(I)V -/
def nm_m23 : px_M := (⟨"NamesInBags$Course", "ready", "(I)V"⟩, prog_3_method_3_code, 4, none, { frames := 1, cells := 0, slots := 0, locals := 23 }, [(0, 1, .aload_n 0), (1, 3, .getfield 25), (4, 1, .iload_n 1), (5, 3, .invokevirtual 33), (8, 3, .ifCond .ne 4), (11, 1, .return_), (12, 1, .aload_n 0), (13, 3, .getfield 25), (16, 3, .getfield 39), (19, 1, .iload_n 1), (20, 1, .iaload), (21, 1, .istore_n 2), (22, 1, .aload_n 0), (23, 1, .iload_n 1), (24, 3, .putfield 42), (27, 1, .aload_n 0), (28, 1, .aload_n 0), (29, 3, .getfield 25), (32, 3, .getfield 45), (35, 1, .iload_n 1), (36, 1, .iaload), (37, 3, .putfield 48), (40, 1, .aload_n 0), (41, 1, .aload_n 0), (42, 3, .getfield 25), (45, 3, .getfield 51), (48, 1, .iload_n 1), (49, 1, .iaload), (50, 3, .putfield 54), (53, 1, .aload_n 0), (54, 1, .aload_n 0), (55, 3, .getfield 25), (58, 1, .iload_n 2), (59, 3, .invokevirtual 56), (62, 3, .putfield 60), (65, 1, .aload_n 0), (66, 1, .aload_n 0), (67, 3, .getfield 25), (70, 1, .iload_n 2), (71, 3, .invokevirtual 63), (74, 3, .putfield 66), (77, 1, .aload_n 0), (78, 1, .aload_n 0), (79, 3, .getfield 25), (82, 1, .iload_n 2), (83, 3, .invokevirtual 69), (86, 1, .aload_n 0), (87, 3, .getfield 29), (90, 1, .ior), (91, 3, .putfield 72), (94, 1, .iconst 0), (95, 1, .istore_n 3), (96, 1, .iload_n 3), (97, 1, .aload_n 0), (98, 3, .getfield 25), (101, 3, .getfield 75), (104, 3, .if_icmp .ge 31), (107, 1, .aload_n 0), (108, 3, .getfield 22), (111, 1, .iload_n 3), (112, 1, .aload_n 0), (113, 3, .getfield 25), (116, 1, .aload_n 0), (117, 3, .getfield 25), (120, 3, .getfield 78), (123, 1, .iload_n 3), (124, 1, .iaload), (125, 3, .invokevirtual 81), (128, 1, .iastore), (129, 3, .iinc 3 1), (132, 3, .goto (-36)), (135, 1, .return_)], [(22, 0, 1, 10, 3), (25, 0, 1, 0, 3), (29, 0, 1, 3, 0), (33, 1, 18, 1, 6), (39, 0, 6, 9, 3), (42, 0, 1, 4, 0), (45, 0, 6, 10, 3), (48, 0, 1, 5, 0), (51, 0, 6, 11, 3), (54, 0, 1, 6, 0), (56, 1, 19, 1, 6), (60, 0, 1, 7, 0), (63, 1, 20, 1, 6), (66, 0, 1, 8, 0), (69, 1, 21, 1, 6), (72, 0, 1, 9, 0), (75, 0, 6, 0, 0), (78, 0, 6, 1, 3), (81, 1, 22, 1, 6)])
/-- NamesInBags$Course.lineAgainst(II)I -/
def nm_m24 : px_M := (⟨"NamesInBags$Course", "lineAgainst", "(II)I"⟩, prog_3_method_4_code, 4, (some .int), { frames := 2, cells := 0, slots := 0, locals := 48 }, [(0, 1, .iconst 0), (1, 1, .istore_n 3), (2, 1, .iload_n 3), (3, 1, .aload_n 0), (4, 3, .getfield 12), (7, 3, .getfield 84), (10, 3, .if_icmp .ge 25), (13, 1, .aload_n 0), (14, 1, .iload_n 3), (15, 1, .iconst 0), (16, 1, .iload_n 1), (17, 3, .invokevirtual 87), (20, 1, .iload_n 2), (21, 1, .ishr), (22, 1, .iconst 1), (23, 1, .iand), (24, 3, .ifCond .eq 5), (27, 1, .iload_n 3), (28, 1, .ireturn), (29, 3, .iinc 3 1), (32, 3, .goto (-30)), (35, 1, .iconst (-1)), (36, 1, .ireturn)], [(12, 0, 1, 1, 0), (84, 0, 3, 3, 0), (87, 1, 8, 3, 1)])
/-- NamesInBags$Course.foretell(III)V -/
def nm_m25 : px_M := (⟨"NamesInBags$Course", "foretell", "(III)V"⟩, prog_3_method_6_code, 6, none, { frames := 2, cells := 0, slots := 0, locals := 48 }, [(0, 1, .aload_n 0), (1, 1, .iload_n 1), (2, 1, .aload_n 0), (3, 3, .getfield 60), (6, 1, .iconst (-1)), (7, 1, .ixor), (8, 1, .iand), (9, 3, .putfield 91), (12, 1, .aload_n 0), (13, 1, .iconst 0), (14, 3, .putfield 94), (17, 1, .aload_n 0), (18, 1, .iconst 0), (19, 3, .putfield 97), (22, 1, .iconst 0), (23, 2, .istore 4), (25, 2, .iload 4), (27, 1, .aload_n 0), (28, 3, .getfield 12), (31, 3, .getfield 84), (34, 3, .if_icmp .ge 92), (37, 1, .aload_n 0), (38, 3, .getfield 91), (41, 1, .aload_n 0), (42, 2, .iload 4), (44, 1, .iload_n 2), (45, 1, .iload_n 3), (46, 3, .invokevirtual 87), (49, 1, .iand), (50, 2, .istore 5), (52, 1, .aload_n 0), (53, 1, .dup), (54, 3, .getfield 91), (57, 2, .iload 5), (59, 1, .iconst (-1)), (60, 1, .ixor), (61, 1, .iand), (62, 3, .putfield 91), (65, 1, .aload_n 0), (66, 3, .getfield 12), (69, 3, .getfield 100), (72, 2, .iload 4), (74, 1, .iaload), (75, 2, .bipush 98), (77, 3, .if_icmp .ne 17), (80, 1, .aload_n 0), (81, 1, .dup), (82, 3, .getfield 94), (85, 2, .iload 5), (87, 1, .ior), (88, 3, .putfield 94), (91, 3, .goto 29), (94, 1, .aload_n 0), (95, 3, .getfield 12), (98, 3, .getfield 100), (101, 2, .iload 4), (103, 1, .iaload), (104, 2, .bipush 108), (106, 3, .if_icmp .ne 14), (109, 1, .aload_n 0), (110, 1, .dup), (111, 3, .getfield 97), (114, 2, .iload 5), (116, 1, .ior), (117, 3, .putfield 97), (120, 3, .iinc 4 1), (123, 3, .goto (-98)), (126, 1, .return_)], [(12, 0, 1, 1, 0), (60, 0, 1, 7, 0), (84, 0, 3, 3, 0), (87, 1, 8, 3, 1), (91, 0, 1, 11, 0), (94, 0, 1, 12, 0), (97, 0, 1, 13, 0), (100, 0, 3, 2, 3)])
/-- NamesInBags$Row.<init>()V -/
def nm_m26 : px_M := (⟨"NamesInBags$Row", "<init>", "()V"⟩, prog_4_method_1_code, 1, none, { frames := 1, cells := 1, slots := 13, locals := 20 }, [(0, 1, .aload_n 0), (1, 3, .invokespecial 3), (4, 1, .aload_n 0), (5, 2, .bipush 13), (7, 2, .newarray .long), (9, 3, .putfield 9), (12, 1, .return_)], [(3, 7, 0, 0, 0), (9, 0, 2, 0, 2), (100007, 6, 5, 0, 0)])
/-- NamesInBags$Row.clear()V -/
def nm_m27 : px_M := (⟨"NamesInBags$Row", "clear", "()V"⟩, prog_4_method_2_code, 1, none, { frames := 0, cells := 0, slots := 0, locals := 0 }, [(0, 1, .aload_n 0), (1, 1, .iconst 0), (2, 3, .putfield 15), (5, 1, .return_)], [(15, 0, 2, 1, 0)])
/-- NamesInBags$Row.tell(J)V -/
def nm_m28 : px_M := (⟨"NamesInBags$Row", "tell", "(J)V"⟩, prog_4_method_3_code, 3, none, { frames := 0, cells := 0, slots := 0, locals := 0 }, [(0, 1, .aload_n 0), (1, 3, .getfield 15), (4, 2, .bipush 13), (6, 3, .if_icmp .ge 23), (9, 1, .aload_n 0), (10, 3, .getfield 9), (13, 1, .aload_n 0), (14, 3, .getfield 15), (17, 1, .lload_n 1), (18, 1, .lastore), (19, 1, .aload_n 0), (20, 1, .dup), (21, 3, .getfield 15), (24, 1, .iconst 1), (25, 1, .iadd), (26, 3, .putfield 15), (29, 1, .return_)], [(9, 0, 2, 0, 3), (15, 0, 2, 1, 0)])
/-- NamesInBags$Row.tellOne(J)V -/
def nm_m29 : px_M := (⟨"NamesInBags$Row", "tellOne", "(J)V"⟩, prog_4_method_4_code, 3, none, { frames := 1, cells := 0, slots := 0, locals := 22 }, [(0, 1, .aload_n 0), (1, 3, .invokevirtual 19), (4, 1, .aload_n 0), (5, 1, .lload_n 1), (6, 3, .invokevirtual 22), (9, 1, .return_)], [(19, 1, 27, 0, 2), (22, 1, 28, 1, 2)])
/-- NamesInBags$Rule.read(LNamesInBags$Text;)V -/
def nm_m30 : px_M := (⟨"NamesInBags$Rule", "read", "(LNamesInBags$Text;)V"⟩, prog_5_method_2_code, 4, none, { frames := 0, cells := 0, slots := 0, locals := 0 }, [(0, 1, .aload_n 0), (1, 1, .iconst 0), (2, 3, .putfield 21), (5, 1, .iconst 0), (6, 1, .istore_n 2), (7, 1, .iload_n 2), (8, 1, .aload_n 1), (9, 3, .getfield 25), (12, 3, .if_icmp .ge 110), (15, 1, .aload_n 0), (16, 3, .getfield 21), (19, 2, .bipush 7), (21, 3, .if_icmp .ge 101), (24, 1, .aload_n 1), (25, 3, .getfield 30), (28, 1, .iload_n 2), (29, 1, .iaload), (30, 1, .istore_n 3), (31, 1, .iload_n 3), (32, 2, .bipush 49), (34, 3, .if_icmp .lt 25), (37, 1, .iload_n 3), (38, 2, .bipush 54), (40, 3, .if_icmp .gt 19), (43, 1, .aload_n 0), (44, 3, .getfield 15), (47, 1, .aload_n 0), (48, 3, .getfield 21), (51, 1, .iload_n 3), (52, 2, .bipush 48), (54, 1, .isub), (55, 1, .iastore), (56, 3, .goto 60), (59, 1, .iload_n 3), (60, 2, .bipush 98), (62, 3, .if_icmp .eq 15), (65, 1, .iload_n 3), (66, 2, .bipush 116), (68, 3, .if_icmp .eq 9), (71, 1, .iload_n 3), (72, 2, .bipush 108), (74, 3, .if_icmp .ne 26), (77, 1, .aload_n 0), (78, 3, .getfield 18), (81, 1, .aload_n 0), (82, 3, .getfield 21), (85, 1, .iload_n 3), (86, 1, .iastore), (87, 1, .aload_n 0), (88, 1, .dup), (89, 3, .getfield 21), (92, 1, .iconst 1), (93, 1, .iadd), (94, 3, .putfield 21), (97, 3, .goto 19), (100, 1, .iload_n 3), (101, 2, .bipush 59), (103, 3, .if_icmp .eq 13), (106, 1, .aload_n 0), (107, 3, .getfield 9), (110, 1, .aload_n 0), (111, 3, .getfield 21), (114, 1, .iload_n 3), (115, 1, .iastore), (116, 3, .iinc 2 1), (119, 3, .goto (-112)), (122, 1, .return_)], [(9, 0, 3, 0, 3), (15, 0, 3, 1, 3), (18, 0, 3, 2, 3), (21, 0, 3, 3, 0), (25, 0, 5, 1, 0), (30, 0, 5, 0, 3)])
/-- NamesInBags$Table.<init>()V -/
def nm_m31 : px_M := (⟨"NamesInBags$Table", "<init>", "()V"⟩, prog_6_method_1_code, 1, none, { frames := 1, cells := 5, slots := 16096, locals := 20 }, [(0, 1, .aload_n 0), (1, 3, .invokespecial 3), (4, 1, .aload_n 0), (5, 3, .sipush 3000), (8, 2, .newarray .long), (10, 3, .putfield 9), (13, 1, .aload_n 0), (14, 3, .sipush 3000), (17, 2, .newarray .int), (19, 3, .putfield 15), (22, 1, .aload_n 0), (23, 3, .sipush 3000), (26, 2, .newarray .long), (28, 3, .putfield 19), (31, 1, .aload_n 0), (32, 3, .sipush 4096), (35, 2, .newarray .int), (37, 3, .putfield 22), (40, 1, .aload_n 0), (41, 3, .sipush 3000), (44, 2, .newarray .int), (46, 3, .putfield 25), (49, 1, .return_)], [(3, 7, 0, 0, 0), (9, 0, 4, 0, 2), (15, 0, 4, 1, 2), (19, 0, 4, 2, 2), (22, 0, 4, 4, 2), (25, 0, 4, 5, 2), (100008, 6, 6, 0, 0), (100017, 6, 7, 0, 0), (100026, 6, 8, 0, 0), (100035, 6, 9, 0, 0), (100044, 6, 10, 0, 0)])
/-- NamesInBags$Table.hash(JI)I -/
def nm_m32 : px_M := (⟨"NamesInBags$Table", "hash", "(JI)I"⟩, prog_6_method_5_code, 5, (some .int), { frames := 0, cells := 0, slots := 0, locals := 0 }, [(0, 1, .lload_n 0), (1, 3, .ldc2_w 36), (4, 1, .lmul), (5, 1, .iload_n 2), (6, 1, .i2l), (7, 3, .ldc2_w 38), (10, 1, .lmul), (11, 1, .ladd), (12, 1, .lstore_n 3), (13, 1, .lload_n 3), (14, 1, .lload_n 3), (15, 2, .bipush 29), (17, 1, .lushr), (18, 1, .lxor), (19, 1, .lstore_n 3), (20, 1, .lload_n 3), (21, 3, .ldc2_w 40), (24, 1, .lmul), (25, 2, .bipush 52), (27, 1, .lushr), (28, 1, .l2i), (29, 3, .sipush 4095), (32, 1, .iand), (33, 1, .ireturn)], [(36, 4, 0, 0, (-7046029254386353131)), (38, 4, 0, 0, (-4417276706812531889)), (40, 4, 0, 0, 1609587929392839161)])
/-- NamesInBags$Table.clear()V -/
def nm_m33 : px_M := (⟨"NamesInBags$Table", "clear", "()V"⟩, prog_6_method_2_code, 2, none, { frames := 1, cells := 0, slots := 0, locals := 24 }, [(0, 1, .iconst 0), (1, 1, .istore_n 1), (2, 1, .iload_n 1), (3, 1, .aload_n 0), (4, 3, .getfield 28), (7, 3, .if_icmp .ge 30), (10, 1, .aload_n 0), (11, 3, .getfield 22), (14, 1, .aload_n 0), (15, 3, .getfield 9), (18, 1, .iload_n 1), (19, 1, .laload), (20, 1, .aload_n 0), (21, 3, .getfield 15), (24, 1, .iload_n 1), (25, 1, .iaload), (26, 3, .invokestatic 32), (29, 1, .iconst 0), (30, 1, .iastore), (31, 3, .iinc 1 1), (34, 3, .goto (-32)), (37, 1, .aload_n 0), (38, 1, .iconst 0), (39, 3, .putfield 28), (42, 1, .return_)], [(9, 0, 4, 0, 3), (15, 0, 4, 1, 3), (22, 0, 4, 4, 3), (28, 0, 4, 3, 0), (32, 2, 32, 2, 0)])
/-- NamesInBags$Table.add(JIJ)Z -/
def nm_m34 : px_M := (⟨"NamesInBags$Table", "add", "(JIJ)Z"⟩, prog_6_method_3_code, 9, (some .boolean), { frames := 1, cells := 0, slots := 0, locals := 24 }, [(0, 1, .lload_n 1), (1, 1, .iload_n 3), (2, 3, .invokestatic 32), (5, 2, .istore 6), (7, 1, .aload_n 0), (8, 3, .getfield 22), (11, 2, .iload 6), (13, 1, .iaload), (14, 1, .iconst 1), (15, 1, .isub), (16, 2, .istore 7), (18, 1, .iconst 0), (19, 2, .istore 8), (21, 2, .iload 8), (23, 1, .aload_n 0), (24, 3, .getfield 28), (27, 3, .if_icmp .ge 62), (30, 2, .iload 7), (32, 3, .ifCond .lt 57), (35, 1, .aload_n 0), (36, 3, .getfield 9), (39, 2, .iload 7), (41, 1, .laload), (42, 1, .lload_n 1), (43, 1, .lcmp), (44, 3, .ifCond .ne 28), (47, 1, .aload_n 0), (48, 3, .getfield 15), (51, 2, .iload 7), (53, 1, .iaload), (54, 1, .iload_n 3), (55, 3, .if_icmp .ne 17), (58, 1, .aload_n 0), (59, 3, .getfield 19), (62, 2, .iload 7), (64, 1, .dup2), (65, 1, .laload), (66, 2, .lload 4), (68, 1, .ladd), (69, 1, .lastore), (70, 1, .iconst 1), (71, 1, .ireturn), (72, 1, .aload_n 0), (73, 3, .getfield 25), (76, 2, .iload 7), (78, 1, .iaload), (79, 1, .iconst 1), (80, 1, .isub), (81, 2, .istore 7), (83, 3, .iinc 8 1), (86, 3, .goto (-65)), (89, 1, .aload_n 0), (90, 3, .getfield 28), (93, 3, .sipush 3000), (96, 3, .if_icmp .lt 5), (99, 1, .iconst 0), (100, 1, .ireturn), (101, 1, .aload_n 0), (102, 3, .getfield 9), (105, 1, .aload_n 0), (106, 3, .getfield 28), (109, 1, .lload_n 1), (110, 1, .lastore), (111, 1, .aload_n 0), (112, 3, .getfield 15), (115, 1, .aload_n 0), (116, 3, .getfield 28), (119, 1, .iload_n 3), (120, 1, .iastore), (121, 1, .aload_n 0), (122, 3, .getfield 19), (125, 1, .aload_n 0), (126, 3, .getfield 28), (129, 2, .lload 4), (131, 1, .lastore), (132, 1, .aload_n 0), (133, 3, .getfield 25), (136, 1, .aload_n 0), (137, 3, .getfield 28), (140, 1, .aload_n 0), (141, 3, .getfield 22), (144, 2, .iload 6), (146, 1, .iaload), (147, 1, .iastore), (148, 1, .aload_n 0), (149, 1, .dup), (150, 3, .getfield 28), (153, 1, .iconst 1), (154, 1, .iadd), (155, 3, .putfield 28), (158, 1, .aload_n 0), (159, 3, .getfield 22), (162, 2, .iload 6), (164, 1, .aload_n 0), (165, 3, .getfield 28), (168, 1, .iastore), (169, 1, .iconst 1), (170, 1, .ireturn)], [(9, 0, 4, 0, 3), (15, 0, 4, 1, 3), (19, 0, 4, 2, 3), (22, 0, 4, 4, 3), (25, 0, 4, 5, 3), (28, 0, 4, 3, 0), (32, 2, 32, 2, 0)])
/-- NamesInBags$Table.sittingAt(I)I -/
def nm_m35 : px_M := (⟨"NamesInBags$Table", "sittingAt", "(I)I"⟩, prog_6_method_4_code, 2, (some .int), { frames := 0, cells := 0, slots := 0, locals := 0 }, [(0, 1, .aload_n 0), (1, 3, .getfield 9), (4, 1, .iload_n 1), (5, 1, .laload), (6, 2, .bipush 50), (8, 1, .lushr), (9, 1, .l2i), (10, 3, .sipush 1023), (13, 1, .iand), (14, 1, .ireturn)], [(9, 0, 4, 0, 3)])
/-- NamesInBags$Text.<init>()V -/
def nm_m36 : px_M := (⟨"NamesInBags$Text", "<init>", "()V"⟩, prog_7_method_1_code, 1, none, { frames := 1, cells := 1, slots := 40, locals := 20 }, [(0, 1, .aload_n 0), (1, 3, .invokespecial 3), (4, 1, .aload_n 0), (5, 2, .bipush 40), (7, 2, .newarray .int), (9, 3, .putfield 9), (12, 1, .return_)], [(3, 7, 0, 0, 0), (9, 0, 5, 0, 2), (100007, 6, 11, 0, 0)])
/-- NamesInBags$Text.add(I)Z -/
def nm_m37 : px_M := (⟨"NamesInBags$Text", "add", "(I)Z"⟩, prog_7_method_2_code, 3, (some .boolean), { frames := 0, cells := 0, slots := 0, locals := 0 }, [(0, 1, .aload_n 0), (1, 3, .getfield 15), (4, 2, .bipush 36), (6, 3, .if_icmp .le 5), (9, 1, .iconst 0), (10, 1, .ireturn), (11, 2, .bipush 24), (13, 1, .istore_n 2), (14, 1, .iload_n 2), (15, 3, .ifCond .lt 35), (18, 1, .aload_n 0), (19, 3, .getfield 9), (22, 1, .aload_n 0), (23, 3, .getfield 15), (26, 1, .iload_n 1), (27, 1, .iload_n 2), (28, 1, .iushr), (29, 3, .sipush 255), (32, 1, .iand), (33, 1, .iastore), (34, 1, .aload_n 0), (35, 1, .dup), (36, 3, .getfield 15), (39, 1, .iconst 1), (40, 1, .iadd), (41, 3, .putfield 15), (44, 3, .iinc 2 (-8)), (47, 3, .goto (-33)), (50, 1, .iconst 1), (51, 1, .ireturn)], [(9, 0, 5, 0, 3), (15, 0, 5, 1, 0)])
/-- NamesInBags$Text.cut(I)Z -/
def nm_m38 : px_M := (⟨"NamesInBags$Text", "cut", "(I)Z"⟩, prog_7_method_3_code, 2, (some .boolean), { frames := 0, cells := 0, slots := 0, locals := 0 }, [(0, 1, .iload_n 1), (1, 3, .ifCond .lt 11), (4, 1, .iload_n 1), (5, 1, .aload_n 0), (6, 3, .getfield 15), (9, 3, .if_icmp .le 5), (12, 1, .iconst 0), (13, 1, .ireturn), (14, 1, .aload_n 0), (15, 1, .iload_n 1), (16, 3, .putfield 15), (19, 1, .iconst 1), (20, 1, .ireturn)], [(15, 0, 5, 1, 0)])
/-- NamesInBags$Text.behind(II)I -/
def nm_m39 : px_M := (⟨"NamesInBags$Text", "behind", "(II)I"⟩, prog_7_method_5_code, 2, (some .int), { frames := 0, cells := 0, slots := 0, locals := 0 }, [(0, 1, .iload_n 0), (1, 27, .tableswitch 101 0 2 #[27, 59, 77]), (28, 1, .iload_n 1), (29, 2, .bipush 115), (31, 3, .if_icmp .ne 5), (34, 1, .iconst 1), (35, 1, .ireturn), (36, 1, .iload_n 1), (37, 2, .bipush 107), (39, 3, .if_icmp .eq 15), (42, 1, .iload_n 1), (43, 2, .bipush 100), (45, 3, .if_icmp .eq 9), (48, 1, .iload_n 1), (49, 2, .bipush 119), (51, 3, .if_icmp .ne 7), (54, 1, .iconst 2), (55, 3, .goto 4), (58, 1, .iconst (-1)), (59, 1, .ireturn), (60, 1, .iload_n 1), (61, 2, .bipush 49), (63, 3, .if_icmp .lt 13), (66, 1, .iload_n 1), (67, 2, .bipush 54), (69, 3, .if_icmp .gt 7), (72, 1, .iconst 2), (73, 3, .goto 4), (76, 1, .iconst (-1)), (77, 1, .ireturn), (78, 1, .iload_n 1), (79, 2, .bipush 98), (81, 3, .if_icmp .eq 15), (84, 1, .iload_n 1), (85, 2, .bipush 116), (87, 3, .if_icmp .eq 9), (90, 1, .iload_n 1), (91, 2, .bipush 108), (93, 3, .if_icmp .ne 7), (96, 1, .iconst 3), (97, 3, .goto 4), (100, 1, .iconst (-1)), (101, 1, .ireturn), (102, 1, .iload_n 1), (103, 2, .bipush 59), (105, 3, .if_icmp .ne 7), (108, 1, .iconst 0), (109, 3, .goto 4), (112, 1, .iconst (-1)), (113, 1, .ireturn)], [])
/-- NamesInBags$Text.firstFault()I -/
def nm_m40 : px_M := (⟨"NamesInBags$Text", "firstFault", "()I"⟩, prog_7_method_4_code, 3, (some .int), { frames := 1, cells := 0, slots := 0, locals := 21 }, [(0, 1, .iconst 0), (1, 1, .istore_n 1), (2, 1, .iconst 0), (3, 1, .istore_n 2), (4, 1, .iload_n 2), (5, 1, .aload_n 0), (6, 3, .getfield 15), (9, 3, .if_icmp .ge 32), (12, 1, .iload_n 2), (13, 2, .bipush 20), (15, 3, .if_icmp .ge 26), (18, 1, .iload_n 1), (19, 1, .aload_n 0), (20, 3, .getfield 9), (23, 1, .iload_n 2), (24, 1, .iaload), (25, 3, .invokestatic 19), (28, 1, .istore_n 1), (29, 1, .iload_n 1), (30, 3, .ifCond .ge 5), (33, 1, .iload_n 2), (34, 1, .ireturn), (35, 3, .iinc 2 1), (38, 3, .goto (-34)), (41, 1, .aload_n 0), (42, 3, .getfield 15), (45, 2, .bipush 20), (47, 3, .if_icmp .le 6), (50, 2, .bipush 20), (52, 1, .ireturn), (53, 1, .aload_n 0), (54, 3, .getfield 15), (57, 3, .ifCond .eq 8), (60, 1, .iload_n 1), (61, 1, .iconst 3), (62, 3, .if_icmp .ne 7), (65, 1, .iconst (-1)), (66, 3, .goto 7), (69, 1, .aload_n 0), (70, 3, .getfield 15), (73, 1, .ireturn)], [(9, 0, 5, 0, 3), (15, 0, 5, 1, 0), (19, 2, 39, 2, 0)])
/-- NamesInBags$Town.<init>()V -/
def nm_m41 : px_M := (⟨"NamesInBags$Town", "<init>", "()V"⟩, prog_8_method_1_code, 1, none, { frames := 1, cells := 10, slots := 72, locals := 20 }, [(0, 1, .aload_n 0), (1, 3, .invokespecial 3), (4, 1, .aload_n 0), (5, 2, .bipush 10), (7, 2, .newarray .int), (9, 3, .putfield 9), (12, 1, .aload_n 0), (13, 2, .bipush 10), (15, 2, .newarray .int), (17, 3, .putfield 15), (20, 1, .aload_n 0), (21, 2, .bipush 10), (23, 2, .newarray .int), (25, 3, .putfield 18), (28, 1, .aload_n 0), (29, 2, .bipush 10), (31, 2, .newarray .int), (33, 3, .putfield 21), (36, 1, .aload_n 0), (37, 2, .bipush 10), (39, 2, .newarray .int), (41, 3, .putfield 24), (44, 1, .aload_n 0), (45, 1, .iconst 2), (46, 2, .newarray .int), (48, 3, .putfield 27), (51, 1, .aload_n 0), (52, 1, .iconst 2), (53, 2, .newarray .boolean), (55, 3, .putfield 30), (58, 1, .aload_n 0), (59, 2, .bipush 6), (61, 2, .newarray .int), (63, 3, .putfield 34), (66, 1, .aload_n 0), (67, 2, .bipush 6), (69, 2, .newarray .int), (71, 3, .putfield 37), (74, 1, .aload_n 0), (75, 2, .bipush 6), (77, 2, .newarray .int), (79, 3, .putfield 40), (82, 1, .return_)], [(3, 7, 0, 0, 0), (9, 0, 6, 1, 2), (15, 0, 6, 2, 2), (18, 0, 6, 3, 2), (21, 0, 6, 4, 2), (24, 0, 6, 5, 2), (27, 0, 6, 6, 2), (30, 0, 6, 7, 2), (34, 0, 6, 9, 2), (37, 0, 6, 10, 2), (40, 0, 6, 11, 2), (100007, 6, 12, 0, 0), (100015, 6, 13, 0, 0), (100023, 6, 14, 0, 0), (100031, 6, 15, 0, 0), (100039, 6, 16, 0, 0), (100046, 6, 17, 0, 0), (100053, 6, 18, 0, 0), (100061, 6, 19, 0, 0), (100069, 6, 20, 0, 0), (100077, 6, 21, 0, 0)])
/-- NamesInBags$Town.addPerson(I)I -/
def nm_m42 : px_M := (⟨"NamesInBags$Town", "addPerson", "(I)I"⟩, prog_8_method_2_code, 3, (some .int), { frames := 0, cells := 0, slots := 0, locals := 0 }, [(0, 1, .aload_n 0), (1, 3, .getfield 43), (4, 1, .istore_n 2), (5, 1, .aload_n 0), (6, 3, .getfield 9), (9, 1, .iload_n 2), (10, 1, .iload_n 1), (11, 1, .iastore), (12, 1, .aload_n 0), (13, 3, .getfield 18), (16, 1, .iload_n 2), (17, 1, .iconst 1), (18, 1, .iastore), (19, 1, .aload_n 0), (20, 3, .getfield 21), (23, 1, .iload_n 2), (24, 1, .iconst 0), (25, 1, .iastore), (26, 1, .aload_n 0), (27, 3, .getfield 24), (30, 1, .iload_n 2), (31, 3, .sipush 1000), (34, 1, .iastore), (35, 1, .aload_n 0), (36, 1, .dup), (37, 3, .getfield 43), (40, 1, .iconst 1), (41, 1, .iadd), (42, 3, .putfield 43), (45, 1, .iload_n 2), (46, 1, .ireturn)], [(9, 0, 6, 1, 3), (18, 0, 6, 3, 3), (21, 0, 6, 4, 3), (24, 0, 6, 5, 3), (43, 0, 6, 0, 0)])
/-- NamesInBags$Town.addDrawing(III)I -/
def nm_m43 : px_M := (⟨"NamesInBags$Town", "addDrawing", "(III)I"⟩, prog_8_method_3_code, 5, (some .int), { frames := 0, cells := 0, slots := 0, locals := 0 }, [(0, 1, .aload_n 0), (1, 3, .getfield 47), (4, 2, .istore 4), (6, 1, .aload_n 0), (7, 3, .getfield 34), (10, 2, .iload 4), (12, 1, .iload_n 1), (13, 1, .iastore), (14, 1, .aload_n 0), (15, 3, .getfield 37), (18, 2, .iload 4), (20, 1, .iload_n 2), (21, 1, .iastore), (22, 1, .aload_n 0), (23, 3, .getfield 40), (26, 2, .iload 4), (28, 1, .iload_n 3), (29, 1, .iastore), (30, 1, .aload_n 0), (31, 1, .dup), (32, 3, .getfield 47), (35, 1, .iconst 1), (36, 1, .iadd), (37, 3, .putfield 47), (40, 2, .iload 4), (42, 1, .ireturn)], [(34, 0, 6, 9, 3), (37, 0, 6, 10, 3), (40, 0, 6, 11, 3), (47, 0, 6, 8, 0)])
/-- NamesInBags$Town.lastDay()I -/
def nm_m44 : px_M := (⟨"NamesInBags$Town", "lastDay", "()I"⟩, prog_8_method_4_code, 1, (some .int), { frames := 0, cells := 0, slots := 0, locals := 0 }, [(0, 1, .aload_n 0), (1, 3, .getfield 47), (4, 3, .ifCond .le 17), (7, 1, .aload_n 0), (8, 3, .getfield 34), (11, 1, .aload_n 0), (12, 3, .getfield 47), (15, 1, .iconst 1), (16, 1, .isub), (17, 1, .iaload), (18, 3, .goto 4), (21, 1, .iconst 0), (22, 1, .ireturn)], [(34, 0, 6, 9, 3), (47, 0, 6, 8, 0)])
/-- NamesInBags$Town.clearDebts()V -/
def nm_m45 : px_M := (⟨"NamesInBags$Town", "clearDebts", "()V"⟩, prog_8_method_5_code, 2, none, { frames := 0, cells := 0, slots := 0, locals := 0 }, [(0, 1, .iconst 0), (1, 1, .istore_n 1), (2, 1, .iload_n 1), (3, 1, .aload_n 0), (4, 3, .getfield 43), (7, 3, .if_icmp .ge 16), (10, 1, .aload_n 0), (11, 3, .getfield 15), (14, 1, .iload_n 1), (15, 1, .iconst 0), (16, 1, .iastore), (17, 3, .iinc 1 1), (20, 3, .goto (-18)), (23, 1, .return_)], [(15, 0, 6, 2, 3), (43, 0, 6, 0, 0)])
/-- NamesInBags$Town.hasPerson(I)Z -/
def nm_m46 : px_M := (⟨"NamesInBags$Town", "hasPerson", "(I)Z"⟩, prog_8_method_6_code, 2, (some .boolean), { frames := 0, cells := 0, slots := 0, locals := 0 }, [(0, 1, .iload_n 1), (1, 3, .ifCond .lt 15), (4, 1, .iload_n 1), (5, 1, .aload_n 0), (6, 3, .getfield 43), (9, 3, .if_icmp .ge 7), (12, 1, .iconst 1), (13, 3, .goto 4), (16, 1, .iconst 0), (17, 1, .ireturn)], [(43, 0, 6, 0, 0)])
/-- NamesInBags$Town.hasAll(I)Z -/
def nm_m47 : px_M := (⟨"NamesInBags$Town", "hasAll", "(I)Z"⟩, prog_8_method_8_code, 2, (some .boolean), { frames := 0, cells := 0, slots := 0, locals := 0 }, [(0, 1, .iload_n 1), (1, 3, .ifCond .lt 17), (4, 1, .iload_n 1), (5, 1, .iconst 1), (6, 1, .aload_n 0), (7, 3, .getfield 43), (10, 1, .ishl), (11, 3, .if_icmp .ge 7), (14, 1, .iconst 1), (15, 3, .goto 4), (18, 1, .iconst 0), (19, 1, .ireturn)], [(43, 0, 6, 0, 0)])
/-- NamesInBags$Walk.<init>()V -/
def nm_m48 : px_M := (⟨"NamesInBags$Walk", "<init>", "()V"⟩, prog_9_method_1_code, 1, none, { frames := 2, cells := 19, slots := 48309, locals := 40 }, [(0, 1, .aload_n 0), (1, 3, .invokespecial 3), (4, 1, .aload_n 0), (5, 3, .new 9), (8, 1, .dup), (9, 3, .invokespecial 11), (12, 3, .putfield 12), (15, 1, .aload_n 0), (16, 3, .new 9), (19, 1, .dup), (20, 3, .invokespecial 11), (23, 3, .putfield 18), (26, 1, .aload_n 0), (27, 3, .new 9), (30, 1, .dup), (31, 3, .invokespecial 11), (34, 3, .putfield 21), (37, 1, .aload_n 0), (38, 3, .new 24), (41, 1, .dup), (42, 3, .invokespecial 26), (45, 3, .putfield 27), (48, 1, .return_)], [(3, 7, 0, 0, 0), (9, 5, 4, 0, 0), (11, 8, 31, 0, 4), (12, 0, 7, 0, 0), (18, 0, 7, 1, 0), (21, 0, 7, 2, 0), (24, 5, 0, 0, 0), (26, 8, 0, 0, 0), (27, 0, 7, 3, 2)])
/-- NamesInBags$Walk.start(LNamesInBags$Chest;)V -/
def nm_m49 : px_M := (⟨"NamesInBags$Walk", "start", "(LNamesInBags$Chest;)V"⟩, prog_9_method_2_code, 2, none, { frames := 2, cells := 0, slots := 0, locals := 52 }, [(0, 1, .aload_n 0), (1, 3, .getfield 21), (4, 3, .invokevirtual 31), (7, 1, .aload_n 0), (8, 3, .getfield 21), (11, 1, .aload_n 1), (12, 3, .getfield 34), (15, 1, .aload_n 1), (16, 3, .getfield 38), (19, 3, .ldc2_w 42), (22, 3, .invokevirtual 44), (25, 1, .pop), (26, 1, .return_)], [(21, 0, 7, 2, 0), (31, 1, 33, 0, 4), (34, 0, 0, 0, 0), (38, 0, 0, 1, 0), (42, 4, 0, 0, 1000000000000), (44, 1, 34, 3, 4)])
/-- NamesInBags$Walk.openAll(LNamesInBags$Course;)V -/
def nm_m50 : px_M := (⟨"NamesInBags$Walk", "openAll", "(LNamesInBags$Course;)V"⟩, prog_9_method_4_code, 3, none, { frames := 4, cells := 0, slots := 0, locals := 95 }, [(0, 1, .aload_n 0), (1, 3, .getfield 12), (4, 3, .invokevirtual 31), (7, 1, .iconst 0), (8, 1, .istore_n 2), (9, 1, .iload_n 2), (10, 1, .aload_n 0), (11, 3, .getfield 21), (14, 3, .getfield 64), (17, 3, .if_icmp .ge 73), (20, 1, .aload_n 0), (21, 3, .getfield 27), (24, 1, .aload_n 0), (25, 3, .getfield 21), (28, 3, .getfield 71), (31, 1, .iload_n 2), (32, 1, .laload), (33, 1, .aload_n 0), (34, 3, .getfield 21), (37, 3, .getfield 74), (40, 1, .iload_n 2), (41, 1, .iaload), (42, 3, .invokevirtual 77), (45, 1, .aload_n 0), (46, 3, .getfield 27), (49, 1, .aload_n 1), (50, 3, .invokevirtual 81), (53, 1, .aload_n 0), (54, 3, .getfield 12), (57, 1, .aload_n 0), (58, 3, .getfield 27), (61, 3, .getfield 34), (64, 1, .aload_n 0), (65, 3, .getfield 27), (68, 3, .getfield 38), (71, 1, .aload_n 0), (72, 3, .getfield 21), (75, 3, .getfield 84), (78, 1, .iload_n 2), (79, 1, .laload), (80, 3, .invokevirtual 44), (83, 1, .pop), (84, 3, .iinc 2 1), (87, 3, .goto (-78)), (90, 1, .aload_n 0), (91, 3, .getfield 21), (94, 3, .invokevirtual 31), (97, 1, .return_)], [(12, 0, 7, 0, 0), (21, 0, 7, 2, 0), (27, 0, 7, 3, 3), (31, 1, 33, 0, 4), (34, 0, 0, 0, 0), (38, 0, 0, 1, 0), (44, 1, 34, 3, 4), (64, 0, 4, 3, 0), (71, 0, 4, 0, 3), (74, 0, 4, 1, 3), (77, 1, 2, 2, 0), (81, 1, 10, 1, 0), (84, 0, 4, 2, 3)])
/-- NamesInBags$Walk.drawEach(LNamesInBags$Course;I)Z -/
def nm_m51 : px_M := (⟨"NamesInBags$Walk", "drawEach", "(LNamesInBags$Course;I)Z"⟩, prog_9_method_6_code, 8, (some .boolean), { frames := 3, cells := 0, slots := 0, locals := 73 }, [(0, 1, .aload_n 0), (1, 3, .getfield 27), (4, 1, .aload_n 1), (5, 3, .getfield 97), (8, 3, .invokevirtual 100), (11, 1, .istore_n 3), (12, 1, .iload_n 3), (13, 3, .invokestatic 104), (16, 2, .istore 4), (18, 2, .iload 4), (20, 3, .ifCond .le 19), (23, 1, .aload_n 0), (24, 3, .getfield 12), (27, 3, .getfield 84), (30, 1, .iload_n 2), (31, 1, .laload), (32, 2, .iload 4), (34, 1, .i2l), (35, 1, .ldiv), (36, 3, .goto 4), (39, 1, .lconst 0), (40, 2, .lstore 5), (42, 1, .aload_n 0), (43, 1, .dup), (44, 3, .getfield 58), (47, 1, .aload_n 0), (48, 3, .getfield 12), (51, 3, .getfield 84), (54, 1, .iload_n 2), (55, 1, .laload), (56, 1, .ladd), (57, 3, .putfield 58), (60, 1, .aload_n 1), (61, 1, .iload_n 3), (62, 1, .aload_n 0), (63, 3, .getfield 27), (66, 1, .iconst 5), (67, 3, .invokevirtual 100), (70, 1, .aload_n 0), (71, 3, .getfield 27), (74, 3, .getfield 38), (77, 3, .invokevirtual 109), (80, 1, .iconst 0), (81, 2, .istore 7), (83, 2, .iload 7), (85, 2, .bipush 10), (87, 3, .if_icmp .ge 98), (90, 1, .iload_n 3), (91, 2, .iload 7), (93, 1, .ishr), (94, 1, .iconst 1), (95, 1, .iand), (96, 3, .ifCond .ne 6), (99, 3, .goto 80), (102, 1, .aload_n 0), (103, 3, .getfield 27), (106, 1, .aload_n 0), (107, 3, .getfield 12), (110, 3, .getfield 71), (113, 1, .iload_n 2), (114, 1, .laload), (115, 1, .aload_n 0), (116, 3, .getfield 12), (119, 3, .getfield 74), (122, 1, .iload_n 2), (123, 1, .iaload), (124, 3, .invokevirtual 77), (127, 1, .aload_n 0), (128, 3, .getfield 27), (131, 1, .aload_n 1), (132, 2, .iload 7), (134, 3, .invokevirtual 113), (137, 3, .ifCond .ne 14), (140, 1, .aload_n 0), (141, 1, .dup), (142, 3, .getfield 61), (145, 2, .lload 5), (147, 1, .ladd), (148, 3, .putfield 61), (151, 1, .aload_n 0), (152, 3, .getfield 18), (155, 1, .aload_n 0), (156, 3, .getfield 27), (159, 3, .getfield 34), (162, 1, .aload_n 0), (163, 3, .getfield 27), (166, 3, .getfield 38), (169, 2, .lload 5), (171, 3, .invokevirtual 44), (174, 3, .ifCond .ne 5), (177, 1, .iconst 0), (178, 1, .ireturn), (179, 3, .iinc 7 1), (182, 3, .goto (-99)), (185, 1, .iconst 1), (186, 1, .ireturn)], [(12, 0, 7, 0, 0), (18, 0, 7, 1, 0), (27, 0, 7, 3, 3), (34, 0, 0, 0, 0), (38, 0, 0, 1, 0), (44, 1, 34, 3, 4), (58, 0, 7, 4, 0), (61, 0, 7, 5, 0), (71, 0, 4, 0, 3), (74, 0, 4, 1, 3), (77, 1, 2, 2, 0), (84, 0, 4, 2, 3), (97, 0, 1, 5, 0), (100, 1, 5, 1, 0), (104, 2, 11, 1, 0), (109, 1, 25, 3, 1), (113, 1, 13, 2, 0)])
/-- NamesInBags$Walk.drawAll(LNamesInBags$Course;)Z -/
def nm_m52 : px_M := (⟨"NamesInBags$Walk", "drawAll", "(LNamesInBags$Course;)Z"⟩, prog_9_method_5_code, 3, (some .boolean), { frames := 4, cells := 0, slots := 0, locals := 100 }, [(0, 1, .aload_n 0), (1, 3, .getfield 18), (4, 3, .invokevirtual 31), (7, 1, .iconst 0), (8, 1, .istore_n 2), (9, 1, .iload_n 2), (10, 1, .aload_n 0), (11, 3, .getfield 12), (14, 3, .getfield 64), (17, 3, .if_icmp .ge 99), (20, 1, .aload_n 0), (21, 3, .getfield 27), (24, 1, .aload_n 0), (25, 3, .getfield 12), (28, 3, .getfield 71), (31, 1, .iload_n 2), (32, 1, .laload), (33, 1, .aload_n 0), (34, 3, .getfield 12), (37, 3, .getfield 74), (40, 1, .iload_n 2), (41, 1, .iaload), (42, 3, .invokevirtual 77), (45, 1, .aload_n 0), (46, 3, .getfield 27), (49, 1, .aload_n 1), (50, 3, .invokevirtual 87), (53, 3, .ifCond .eq 46), (56, 1, .aload_n 0), (57, 3, .getfield 27), (60, 1, .aload_n 1), (61, 3, .invokevirtual 90), (64, 1, .aload_n 0), (65, 3, .getfield 21), (68, 1, .aload_n 0), (69, 3, .getfield 27), (72, 3, .getfield 34), (75, 1, .aload_n 0), (76, 3, .getfield 27), (79, 3, .getfield 38), (82, 1, .aload_n 0), (83, 3, .getfield 12), (86, 3, .getfield 84), (89, 1, .iload_n 2), (90, 1, .laload), (91, 3, .invokevirtual 44), (94, 3, .ifCond .ne 16), (97, 1, .iconst 0), (98, 1, .ireturn), (99, 1, .aload_n 0), (100, 1, .aload_n 1), (101, 1, .iload_n 2), (102, 3, .invokevirtual 93), (105, 3, .ifCond .ne 5), (108, 1, .iconst 0), (109, 1, .ireturn), (110, 3, .iinc 2 1), (113, 3, .goto (-104)), (116, 1, .aload_n 0), (117, 3, .getfield 12), (120, 1, .astore_n 2), (121, 1, .aload_n 0), (122, 1, .aload_n 0), (123, 3, .getfield 18), (126, 3, .putfield 12), (129, 1, .aload_n 0), (130, 1, .aload_n 2), (131, 3, .putfield 18), (134, 1, .iconst 1), (135, 1, .ireturn)], [(12, 0, 7, 0, 0), (18, 0, 7, 1, 0), (21, 0, 7, 2, 0), (27, 0, 7, 3, 3), (31, 1, 33, 0, 4), (34, 0, 0, 0, 0), (38, 0, 0, 1, 0), (44, 1, 34, 3, 4), (64, 0, 4, 3, 0), (71, 0, 4, 0, 3), (74, 0, 4, 1, 3), (77, 1, 2, 2, 0), (84, 0, 4, 2, 3), (87, 1, 12, 1, 0), (90, 1, 14, 1, 0), (93, 1, 51, 2, 7)])
/-- NamesInBags$Walk.pass(LNamesInBags$Course;I)Z -/
def nm_m53 : px_M := (⟨"NamesInBags$Walk", "pass", "(LNamesInBags$Course;I)Z"⟩, prog_9_method_3_code, 4, (some .boolean), { frames := 5, cells := 0, slots := 0, locals := 122 }, [(0, 1, .aload_n 1), (1, 1, .iload_n 2), (2, 3, .invokevirtual 48), (5, 1, .aload_n 0), (6, 1, .aload_n 1), (7, 3, .invokevirtual 54), (10, 1, .aload_n 0), (11, 1, .lconst 0), (12, 3, .putfield 58), (15, 1, .aload_n 0), (16, 1, .lconst 0), (17, 3, .putfield 61), (20, 1, .iconst 0), (21, 1, .istore_n 3), (22, 1, .iload_n 3), (23, 2, .bipush 10), (25, 3, .if_icmp .gt 29), (28, 1, .aload_n 0), (29, 3, .getfield 12), (32, 3, .getfield 64), (35, 3, .ifCond .le 19), (38, 1, .aload_n 0), (39, 1, .aload_n 1), (40, 3, .invokevirtual 67), (43, 3, .ifCond .ne 5), (46, 1, .iconst 0), (47, 1, .ireturn), (48, 3, .iinc 3 1), (51, 3, .goto (-29)), (54, 1, .iconst 1), (55, 1, .ireturn)], [(12, 0, 7, 0, 0), (48, 1, 23, 1, 1), (54, 1, 50, 1, 7), (58, 0, 7, 4, 0), (61, 0, 7, 5, 0), (64, 0, 4, 3, 0), (67, 1, 52, 1, 7)])
/-- NamesInBags$Walk.goOnWith(I)V -/
def nm_m54 : px_M := (⟨"NamesInBags$Walk", "goOnWith", "(I)V"⟩, prog_9_method_7_code, 3, none, { frames := 2, cells := 0, slots := 0, locals := 52 }, [(0, 1, .aload_n 0), (1, 3, .getfield 18), (4, 3, .invokevirtual 31), (7, 1, .iconst 0), (8, 1, .istore_n 2), (9, 1, .iload_n 2), (10, 1, .aload_n 0), (11, 3, .getfield 21), (14, 3, .getfield 64), (17, 3, .if_icmp .ge 56), (20, 1, .aload_n 0), (21, 3, .getfield 21), (24, 1, .iload_n 2), (25, 3, .invokevirtual 116), (28, 1, .iload_n 1), (29, 3, .if_icmp .ne 38), (32, 1, .aload_n 0), (33, 3, .getfield 18), (36, 1, .aload_n 0), (37, 3, .getfield 21), (40, 3, .getfield 71), (43, 1, .iload_n 2), (44, 1, .laload), (45, 1, .aload_n 0), (46, 3, .getfield 21), (49, 3, .getfield 74), (52, 1, .iload_n 2), (53, 1, .iaload), (54, 1, .aload_n 0), (55, 3, .getfield 21), (58, 3, .getfield 84), (61, 1, .iload_n 2), (62, 1, .laload), (63, 3, .invokevirtual 44), (66, 1, .pop), (67, 3, .iinc 2 1), (70, 3, .goto (-61)), (73, 1, .aload_n 0), (74, 3, .getfield 21), (77, 1, .astore_n 2), (78, 1, .aload_n 0), (79, 1, .aload_n 0), (80, 3, .getfield 18), (83, 3, .putfield 21), (86, 1, .aload_n 0), (87, 1, .aload_n 2), (88, 3, .putfield 18), (91, 1, .return_)], [(18, 0, 7, 1, 0), (21, 0, 7, 2, 0), (31, 1, 33, 0, 4), (44, 1, 34, 3, 4), (64, 0, 4, 3, 0), (71, 0, 4, 0, 3), (74, 0, 4, 1, 3), (84, 0, 4, 2, 3), (116, 1, 35, 1, 4)])
/-- NamesInBags$Walk.chanceOfAll()J -/
def nm_m55 : px_M := (⟨"NamesInBags$Walk", "chanceOfAll", "()J"⟩, prog_9_method_8_code, 4, (some .long), { frames := 0, cells := 0, slots := 0, locals := 0 }, [(0, 1, .lconst 0), (1, 1, .lstore_n 1), (2, 1, .iconst 0), (3, 1, .istore_n 3), (4, 1, .iload_n 3), (5, 1, .aload_n 0), (6, 3, .getfield 21), (9, 3, .getfield 64), (12, 3, .if_icmp .ge 21), (15, 1, .lload_n 1), (16, 1, .aload_n 0), (17, 3, .getfield 21), (20, 3, .getfield 84), (23, 1, .iload_n 3), (24, 1, .laload), (25, 1, .ladd), (26, 1, .lstore_n 1), (27, 3, .iinc 3 1), (30, 3, .goto (-26)), (33, 1, .lload_n 1), (34, 1, .lreturn)], [(21, 0, 7, 2, 0), (64, 0, 4, 3, 0), (84, 0, 4, 2, 3)])
/-- NamesInBags$Walk.chanceOfAny(I)J -/
def nm_m56 : px_M := (⟨"NamesInBags$Walk", "chanceOfAny", "(I)J"⟩, prog_9_method_9_code, 5, (some .long), { frames := 1, cells := 0, slots := 0, locals := 21 }, [(0, 1, .lconst 0), (1, 1, .lstore_n 2), (2, 1, .iconst 0), (3, 2, .istore 4), (5, 2, .iload 4), (7, 1, .aload_n 0), (8, 3, .getfield 21), (11, 3, .getfield 64), (14, 3, .if_icmp .ge 36), (17, 1, .aload_n 0), (18, 3, .getfield 21), (21, 2, .iload 4), (23, 3, .invokevirtual 116), (26, 1, .iload_n 1), (27, 1, .iand), (28, 3, .ifCond .eq 16), (31, 1, .lload_n 2), (32, 1, .aload_n 0), (33, 3, .getfield 21), (36, 3, .getfield 84), (39, 2, .iload 4), (41, 1, .laload), (42, 1, .ladd), (43, 1, .lstore_n 2), (44, 3, .iinc 4 1), (47, 3, .goto (-42)), (50, 1, .lload_n 2), (51, 1, .lreturn)], [(21, 0, 7, 2, 0), (64, 0, 4, 3, 0), (84, 0, 4, 2, 3), (116, 1, 35, 1, 4)])
/-- NamesInBags.lastIn(II)I -/
def nm_m57 : px_M := (⟨"NamesInBags", "lastIn", "(II)I"⟩, prog_1_method_52_code, 2, (some .int), { frames := 0, cells := 0, slots := 0, locals := 0 }, [(0, 1, .iload_n 0), (1, 1, .iconst 3), (2, 1, .iload_n 1), (3, 1, .imul), (4, 1, .iushr), (5, 2, .bipush 7), (7, 1, .iand), (8, 1, .iconst 1), (9, 1, .isub), (10, 1, .ireturn)], [])
/-- NamesInBags$Walk.chanceSince(II)J -/
def nm_m58 : px_M := (⟨"NamesInBags$Walk", "chanceSince", "(II)J"⟩, prog_9_method_10_code, 6, (some .long), { frames := 1, cells := 0, slots := 0, locals := 21 }, [(0, 1, .lconst 0), (1, 1, .lstore_n 3), (2, 1, .iconst 0), (3, 2, .istore 5), (5, 2, .iload 5), (7, 1, .aload_n 0), (8, 3, .getfield 21), (11, 3, .getfield 64), (14, 3, .if_icmp .ge 40), (17, 1, .aload_n 0), (18, 3, .getfield 21), (21, 3, .getfield 74), (24, 2, .iload 5), (26, 1, .iaload), (27, 1, .iload_n 1), (28, 3, .invokestatic 119), (31, 1, .iload_n 2), (32, 3, .if_icmp .lt 16), (35, 1, .lload_n 3), (36, 1, .aload_n 0), (37, 3, .getfield 21), (40, 3, .getfield 84), (43, 2, .iload 5), (45, 1, .laload), (46, 1, .ladd), (47, 1, .lstore_n 3), (48, 3, .iinc 5 1), (51, 3, .goto (-46)), (54, 1, .lload_n 3), (55, 1, .lreturn)], [(21, 0, 7, 2, 0), (64, 0, 4, 3, 0), (74, 0, 4, 1, 3), (84, 0, 4, 2, 3), (119, 2, 57, 2, 0)])
/-- NamesInBags$Walk.chanceOfFilled(I)J -/
def nm_m59 : px_M := (⟨"NamesInBags$Walk", "chanceOfFilled", "(I)J"⟩, prog_9_method_11_code, 5, (some .long), { frames := 1, cells := 0, slots := 0, locals := 21 }, [(0, 1, .lconst 0), (1, 1, .lstore_n 2), (2, 1, .iconst 0), (3, 2, .istore 4), (5, 2, .iload 4), (7, 1, .aload_n 0), (8, 3, .getfield 21), (11, 3, .getfield 64), (14, 3, .if_icmp .ge 38), (17, 1, .aload_n 0), (18, 3, .getfield 21), (21, 2, .iload 4), (23, 3, .invokevirtual 116), (26, 3, .invokestatic 104), (29, 1, .iload_n 1), (30, 3, .if_icmp .ne 16), (33, 1, .lload_n 2), (34, 1, .aload_n 0), (35, 3, .getfield 21), (38, 3, .getfield 84), (41, 2, .iload 4), (43, 1, .laload), (44, 1, .ladd), (45, 1, .lstore_n 2), (46, 3, .iinc 4 1), (49, 3, .goto (-44)), (52, 1, .lload_n 2), (53, 1, .lreturn)], [(21, 0, 7, 2, 0), (64, 0, 4, 3, 0), (84, 0, 4, 2, 3), (104, 2, 11, 1, 0), (116, 1, 35, 1, 4)])
/-- NamesInBags$Walk.chanceOfLess(I)J -/
def nm_m60 : px_M := (⟨"NamesInBags$Walk", "chanceOfLess", "(I)J"⟩, prog_9_method_12_code, 5, (some .long), { frames := 2, cells := 0, slots := 0, locals := 45 }, [(0, 1, .lconst 0), (1, 1, .lstore_n 2), (2, 1, .iconst 0), (3, 2, .istore 4), (5, 2, .iload 4), (7, 1, .iload_n 1), (8, 3, .if_icmp .ge 18), (11, 1, .lload_n 2), (12, 1, .aload_n 0), (13, 2, .iload 4), (15, 3, .invokevirtual 123), (18, 1, .ladd), (19, 1, .lstore_n 2), (20, 3, .iinc 4 1), (23, 3, .goto (-18)), (26, 1, .lload_n 2), (27, 1, .lreturn)], [(123, 1, 59, 1, 7)])
/-- NamesInBags$Walk.mayFill(I)Z -/
def nm_m61 : px_M := (⟨"NamesInBags$Walk", "mayFill", "(I)Z"⟩, prog_9_method_13_code, 3, (some .boolean), { frames := 1, cells := 0, slots := 0, locals := 21 }, [(0, 1, .iconst 0), (1, 1, .istore_n 2), (2, 1, .iload_n 2), (3, 1, .aload_n 0), (4, 3, .getfield 21), (7, 3, .getfield 64), (10, 3, .if_icmp .ge 26), (13, 1, .aload_n 0), (14, 3, .getfield 21), (17, 1, .iload_n 2), (18, 3, .invokevirtual 116), (21, 3, .invokestatic 104), (24, 1, .iload_n 1), (25, 3, .if_icmp .ne 5), (28, 1, .iconst 1), (29, 1, .ireturn), (30, 3, .iinc 2 1), (33, 3, .goto (-31)), (36, 1, .iconst 0), (37, 1, .ireturn)], [(21, 0, 7, 2, 0), (64, 0, 4, 3, 0), (104, 2, 11, 1, 0), (116, 1, 35, 1, 4)])
/-- NamesInBags$Walk.whoAlwaysSit()I -/
def nm_m62 : px_M := (⟨"NamesInBags$Walk", "whoAlwaysSit", "()I"⟩, prog_9_method_14_code, 3, (some .int), { frames := 1, cells := 0, slots := 0, locals := 21 }, [(0, 1, .aload_n 0), (1, 3, .getfield 21), (4, 3, .getfield 64), (7, 3, .ifCond .le 9), (10, 3, .sipush 1023), (13, 3, .goto 4), (16, 1, .iconst 0), (17, 1, .istore_n 1), (18, 1, .iconst 0), (19, 1, .istore_n 2), (20, 1, .iload_n 2), (21, 1, .aload_n 0), (22, 3, .getfield 21), (25, 3, .getfield 64), (28, 3, .if_icmp .ge 20), (31, 1, .iload_n 1), (32, 1, .aload_n 0), (33, 3, .getfield 21), (36, 1, .iload_n 2), (37, 3, .invokevirtual 116), (40, 1, .iand), (41, 1, .istore_n 1), (42, 3, .iinc 2 1), (45, 3, .goto (-25)), (48, 1, .iload_n 1), (49, 1, .ireturn)], [(21, 0, 7, 2, 0), (64, 0, 4, 3, 0), (116, 1, 35, 1, 4)])
/-- NamesInBags$Walk.whoMaySit()I -/
def nm_m63 : px_M := (⟨"NamesInBags$Walk", "whoMaySit", "()I"⟩, prog_9_method_15_code, 3, (some .int), { frames := 1, cells := 0, slots := 0, locals := 21 }, [(0, 1, .iconst 0), (1, 1, .istore_n 1), (2, 1, .iconst 0), (3, 1, .istore_n 2), (4, 1, .iload_n 2), (5, 1, .aload_n 0), (6, 3, .getfield 21), (9, 3, .getfield 64), (12, 3, .if_icmp .ge 20), (15, 1, .iload_n 1), (16, 1, .aload_n 0), (17, 3, .getfield 21), (20, 1, .iload_n 2), (21, 3, .invokevirtual 116), (24, 1, .ior), (25, 1, .istore_n 1), (26, 3, .iinc 2 1), (29, 3, .goto (-25)), (32, 1, .iload_n 1), (33, 1, .ireturn)], [(21, 0, 7, 2, 0), (64, 0, 4, 3, 0), (116, 1, 35, 1, 4)])
/-- NamesInBags$Walk.howUnlike(I)J -/
def nm_m64 : px_M := (⟨"NamesInBags$Walk", "howUnlike", "(I)J"⟩, prog_9_method_16_code, 9, (some .long), { frames := 2, cells := 0, slots := 0, locals := 45 }, [(0, 3, .ldc2_w 127), (3, 1, .lstore_n 2), (4, 3, .ldc2_w 127), (7, 2, .lstore 4), (9, 1, .iconst 0), (10, 2, .istore 6), (12, 2, .iload 6), (14, 2, .bipush 10), (16, 3, .if_icmp .ge 56), (19, 1, .iload_n 1), (20, 2, .iload 6), (22, 1, .ishr), (23, 1, .iconst 1), (24, 1, .iand), (25, 3, .ifCond .eq 41), (28, 1, .aload_n 0), (29, 1, .iconst 1), (30, 2, .iload 6), (32, 1, .ishl), (33, 3, .invokevirtual 129), (36, 2, .lstore 7), (38, 1, .lload_n 2), (39, 2, .lload 7), (41, 3, .invokestatic 132), (44, 1, .lstore_n 2), (45, 2, .lload 4), (47, 1, .lconst 0), (48, 1, .lcmp), (49, 3, .ifCond .ge 8), (52, 2, .lload 7), (54, 3, .goto 10), (57, 2, .lload 4), (59, 2, .lload 7), (61, 3, .invokestatic 138), (64, 2, .lstore 4), (66, 3, .iinc 6 1), (69, 3, .goto (-57)), (72, 1, .lload_n 2), (73, 2, .lload 4), (75, 1, .lsub), (76, 1, .lreturn)], [(127, 4, 0, 0, (-1)), (129, 1, 56, 1, 7), (132, 11, 2, 0, 0), (138, 11, 3, 0, 0)])
/-- NamesInBags.<init>()V -/
def nm_m65 : px_M := (⟨"NamesInBags", "<init>", "()V"⟩, prog_1_method_1_code, 2, none, { frames := 3, cells := 68, slots := 48647, locals := 61 }, [(0, 1, .aload_n 0), (1, 3, .invokespecial 3), (4, 1, .aload_n 0), (5, 3, .new 9), (8, 1, .dup), (9, 3, .invokespecial 11), (12, 3, .putfield 12), (15, 1, .aload_n 0), (16, 3, .new 16), (19, 1, .dup), (20, 3, .invokespecial 18), (23, 3, .putfield 19), (26, 1, .aload_n 0), (27, 3, .new 23), (30, 1, .dup), (31, 3, .invokespecial 25), (34, 3, .putfield 26), (37, 1, .aload_n 0), (38, 1, .iconst 3), (39, 3, .anewarray 23), (42, 3, .putfield 30), (45, 1, .aload_n 0), (46, 3, .new 34), (49, 1, .dup), (50, 3, .invokespecial 36), (53, 3, .putfield 37), (56, 1, .aload_n 0), (57, 3, .new 34), (60, 1, .dup), (61, 3, .invokespecial 36), (64, 3, .putfield 41), (67, 1, .aload_n 0), (68, 3, .new 44), (71, 1, .dup), (72, 1, .aload_n 0), (73, 3, .getfield 12), (76, 3, .invokespecial 46), (79, 3, .putfield 49), (82, 1, .aload_n 0), (83, 3, .new 53), (86, 1, .dup), (87, 3, .invokespecial 55), (90, 3, .putfield 56), (93, 1, .aload_n 0), (94, 3, .new 60), (97, 1, .dup), (98, 3, .invokespecial 62), (101, 3, .putfield 63), (104, 1, .aload_n 0), (105, 2, .bipush 10), (107, 2, .newarray .int), (109, 3, .putfield 67), (112, 1, .aload_n 0), (113, 1, .iconst 1), (114, 3, .putfield 71), (117, 1, .aload_n 0), (118, 1, .iconst 3), (119, 3, .anewarray 34), (122, 3, .putfield 75), (125, 1, .aload_n 0), (126, 1, .iconst 3), (127, 2, .newarray .int), (129, 3, .putfield 79), (132, 1, .aload_n 0), (133, 2, .bipush 6), (135, 2, .newarray .int), (137, 3, .putfield 82), (140, 1, .iconst 0), (141, 1, .istore_n 1), (142, 1, .iload_n 1), (143, 1, .iconst 3), (144, 3, .if_icmp .ge 22), (147, 1, .aload_n 0), (148, 3, .getfield 30), (151, 1, .iload_n 1), (152, 3, .new 23), (155, 1, .dup), (156, 3, .invokespecial 25), (159, 1, .aastore), (160, 3, .iinc 1 1), (163, 3, .goto (-21)), (166, 1, .iconst 0), (167, 1, .istore_n 1), (168, 1, .iload_n 1), (169, 1, .iconst 3), (170, 3, .if_icmp .ge 22), (173, 1, .aload_n 0), (174, 3, .getfield 75), (177, 1, .iload_n 1), (178, 3, .new 34), (181, 1, .dup), (182, 3, .invokespecial 36), (185, 1, .aastore), (186, 3, .iinc 1 1), (189, 3, .goto (-21)), (192, 1, .return_)], [(3, 7, 0, 0, 0), (9, 5, 6, 0, 0), (11, 8, 41, 0, 6), (12, 0, 8, 0, 2), (16, 5, 5, 0, 0), (18, 8, 36, 0, 5), (19, 0, 8, 1, 2), (23, 5, 3, 0, 0), (25, 8, 15, 0, 3), (26, 0, 8, 2, 2), (30, 0, 8, 3, 2), (34, 5, 0, 0, 0), (36, 8, 0, 0, 0), (37, 0, 8, 5, 2), (41, 0, 8, 6, 2), (44, 5, 1, 0, 0), (46, 8, 16, 1, 1), (49, 0, 8, 7, 2), (53, 5, 7, 0, 0), (55, 8, 48, 0, 7), (56, 0, 8, 8, 2), (60, 5, 2, 0, 0), (62, 8, 26, 0, 2), (63, 0, 8, 9, 2), (67, 0, 8, 10, 2), (71, 0, 8, 11, 0), (75, 0, 8, 12, 2), (79, 0, 8, 13, 2), (82, 0, 8, 15, 2), (100039, 6, 22, 0, 0), (100107, 6, 23, 0, 0), (100119, 6, 24, 0, 0), (100127, 6, 25, 0, 0), (100135, 6, 26, 0, 0), (200022, 10, 3, 22, 0), (200024, 10, 0, 24, 0), (300023, 9, 22, 0, 0), (300034, 9, 24, 0, 0)])
/-- NamesInBags.person(I)I -/
def nm_m66 : px_M := (⟨"NamesInBags", "person", "(I)I"⟩, prog_1_method_2_code, 2, (some .int), { frames := 1, cells := 0, slots := 0, locals := 22 }, [(0, 1, .iload_n 1), (1, 3, .ifCond .lt 21), (4, 1, .iload_n 1), (5, 2, .bipush 6), (7, 3, .if_icmp .ge 15), (10, 1, .aload_n 0), (11, 3, .getfield 12), (14, 3, .getfield 85), (17, 2, .bipush 10), (19, 3, .if_icmp .lt 5), (22, 1, .iconst (-1)), (23, 1, .ireturn), (24, 1, .aload_n 0), (25, 3, .getfield 12), (28, 1, .iload_n 1), (29, 3, .invokevirtual 88), (32, 1, .ireturn)], [(12, 0, 8, 0, 3), (85, 0, 6, 0, 0), (88, 1, 42, 1, 6)])
/-- NamesInBags.isDay(I)Z -/
def nm_m67 : px_M := (⟨"NamesInBags", "isDay", "(I)Z"⟩, prog_1_method_45_code, 1, (some .boolean), { frames := 0, cells := 0, slots := 0, locals := 0 }, [(0, 1, .iload_n 0), (1, 3, .ifCond .lt 14), (4, 1, .iload_n 0), (5, 3, .sipush 1000), (8, 3, .if_icmp .ge 7), (11, 1, .iconst 1), (12, 3, .goto 4), (15, 1, .iconst 0), (16, 1, .ireturn)], [])
/-- NamesInBags.debt(II)I -/
def nm_m68 : px_M := (⟨"NamesInBags", "debt", "(II)I"⟩, prog_1_method_3_code, 4, (some .int), { frames := 1, cells := 0, slots := 0, locals := 21 }, [(0, 1, .aload_n 0), (1, 3, .getfield 12), (4, 1, .iload_n 1), (5, 3, .invokevirtual 92), (8, 3, .ifCond .eq 10), (11, 1, .iload_n 2), (12, 3, .invokestatic 96), (15, 3, .ifCond .ne 5), (18, 1, .iconst (-1)), (19, 1, .ireturn), (20, 1, .aload_n 0), (21, 3, .getfield 12), (24, 3, .getfield 99), (27, 1, .iload_n 1), (28, 1, .iaload), (29, 1, .istore_n 3), (30, 1, .aload_n 0), (31, 3, .getfield 12), (34, 3, .getfield 99), (37, 1, .iload_n 1), (38, 1, .iload_n 2), (39, 1, .iastore), (40, 1, .iload_n 3), (41, 1, .ireturn)], [(12, 0, 8, 0, 3), (92, 1, 46, 1, 6), (96, 2, 67, 1, 0), (99, 0, 6, 2, 3)])
/-- NamesInBags.away(III)Z -/
def nm_m69 : px_M := (⟨"NamesInBags", "away", "(III)Z"⟩, prog_1_method_4_code, 4, (some .boolean), { frames := 1, cells := 0, slots := 0, locals := 21 }, [(0, 1, .aload_n 0), (1, 3, .getfield 12), (4, 1, .iload_n 1), (5, 3, .invokevirtual 92), (8, 3, .ifCond .eq 17), (11, 1, .iload_n 2), (12, 3, .invokestatic 96), (15, 3, .ifCond .eq 10), (18, 1, .iload_n 3), (19, 3, .invokestatic 96), (22, 3, .ifCond .ne 5), (25, 1, .iconst 0), (26, 1, .ireturn), (27, 1, .aload_n 0), (28, 3, .getfield 12), (31, 3, .getfield 102), (34, 1, .iload_n 1), (35, 1, .iload_n 2), (36, 1, .iastore), (37, 1, .aload_n 0), (38, 3, .getfield 12), (41, 3, .getfield 105), (44, 1, .iload_n 1), (45, 1, .iload_n 3), (46, 1, .iastore), (47, 1, .iconst 1), (48, 1, .ireturn)], [(12, 0, 8, 0, 3), (92, 1, 46, 1, 6), (96, 2, 67, 1, 0), (102, 0, 6, 3, 3), (105, 0, 6, 4, 3)])
/-- NamesInBags.dies(II)I -/
def nm_m70 : px_M := (⟨"NamesInBags", "dies", "(II)I"⟩, prog_1_method_5_code, 4, (some .int), { frames := 1, cells := 0, slots := 0, locals := 21 }, [(0, 1, .aload_n 0), (1, 3, .getfield 12), (4, 1, .iload_n 1), (5, 3, .invokevirtual 92), (8, 3, .ifCond .eq 14), (11, 1, .iload_n 2), (12, 3, .ifCond .lt 10), (15, 1, .iload_n 2), (16, 3, .sipush 1000), (19, 3, .if_icmp .le 5), (22, 1, .iconst (-1)), (23, 1, .ireturn), (24, 1, .aload_n 0), (25, 3, .getfield 12), (28, 3, .getfield 108), (31, 1, .iload_n 1), (32, 1, .iaload), (33, 1, .istore_n 3), (34, 1, .aload_n 0), (35, 3, .getfield 12), (38, 3, .getfield 108), (41, 1, .iload_n 1), (42, 1, .iload_n 2), (43, 1, .iastore), (44, 1, .iload_n 3), (45, 1, .ireturn)], [(12, 0, 8, 0, 3), (92, 1, 46, 1, 6), (108, 0, 6, 5, 3)])
/-- NamesInBags.dayOnSheet(II)I -/
def nm_m71 : px_M := (⟨"NamesInBags", "dayOnSheet", "(II)I"⟩, prog_1_method_53_code, 3, (some .int), { frames := 1, cells := 0, slots := 0, locals := 23 }, [(0, 1, .iload_n 1), (1, 1, .istore_n 2), (2, 1, .iload_n 0), (3, 3, .ifCond .ne 9), (6, 1, .iload_n 1), (7, 1, .i2b), (8, 1, .istore_n 2), (9, 3, .goto 11), (12, 1, .iload_n 0), (13, 1, .iconst 1), (14, 3, .if_icmp .ne 6), (17, 1, .iload_n 1), (18, 1, .i2s), (19, 1, .istore_n 2), (20, 1, .iconst 0), (21, 3, .sipush 999), (24, 1, .iload_n 2), (25, 3, .invokestatic 355), (28, 3, .invokestatic 360), (31, 1, .ireturn)], [(355, 11, 1, 0, 0), (360, 11, 0, 0, 0)])
/-- NamesInBags.sheet(IIII)I -/
def nm_m72 : px_M := (⟨"NamesInBags", "sheet", "(IIII)I"⟩, prog_1_method_6_code, 8, (some .int), { frames := 2, cells := 0, slots := 0, locals := 45 }, [(0, 1, .iload_n 1), (1, 3, .ifCond .lt 14), (4, 1, .iload_n 1), (5, 1, .iconst 3), (6, 3, .if_icmp .gt 9), (9, 1, .iload_n 2), (10, 2, .bipush 10), (12, 3, .if_icmp .le 5), (15, 1, .iconst (-1)), (16, 1, .ireturn), (17, 1, .iload_n 1), (18, 1, .iconst 3), (19, 3, .if_icmp .ne 13), (22, 1, .aload_n 0), (23, 3, .getfield 12), (26, 3, .invokevirtual 111), (29, 2, .bipush (-3)), (31, 1, .ireturn), (32, 1, .iload_n 2), (33, 3, .ifCond .ge 6), (36, 2, .bipush (-2)), (38, 1, .ireturn), (39, 1, .aload_n 0), (40, 3, .getfield 12), (43, 3, .invokevirtual 111), (46, 1, .iconst 0), (47, 2, .istore 5), (49, 1, .iload_n 3), (50, 2, .istore 6), (52, 1, .iconst 0), (53, 2, .istore 7), (55, 2, .iload 7), (57, 1, .aload_n 0), (58, 3, .getfield 12), (61, 3, .getfield 85), (64, 3, .if_icmp .ge 53), (67, 2, .iload 7), (69, 1, .iload_n 2), (70, 3, .if_icmp .ge 47), (73, 1, .aload_n 0), (74, 3, .getfield 12), (77, 3, .getfield 99), (80, 2, .iload 7), (82, 1, .iload_n 1), (83, 2, .iload 6), (85, 3, .invokestatic 114), (88, 1, .iastore), (89, 2, .iload 5), (91, 1, .aload_n 0), (92, 3, .getfield 12), (95, 3, .getfield 99), (98, 2, .iload 7), (100, 1, .iaload), (101, 1, .iadd), (102, 2, .istore 5), (104, 2, .iload 6), (106, 2, .iload 4), (108, 1, .iadd), (109, 2, .istore 6), (111, 3, .iinc 7 1), (114, 3, .goto (-59)), (117, 2, .iload 5), (119, 1, .ireturn)], [(12, 0, 8, 0, 3), (85, 0, 6, 0, 0), (99, 0, 6, 2, 3), (111, 1, 45, 0, 6), (114, 2, 71, 2, 0)])
/-- NamesInBags.isBag(I)Z -/
def nm_m73 : px_M := (⟨"NamesInBags", "isBag", "(I)Z"⟩, prog_1_method_46_code, 1, (some .boolean), { frames := 0, cells := 0, slots := 0, locals := 0 }, [(0, 1, .iload_n 0), (1, 3, .ifCond .lt 12), (4, 1, .iload_n 0), (5, 1, .iconst 2), (6, 3, .if_icmp .ge 7), (9, 1, .iconst 1), (10, 3, .goto 4), (13, 1, .iconst 0), (14, 1, .ireturn)], [])
/-- NamesInBags.pack(II)I -/
def nm_m74 : px_M := (⟨"NamesInBags", "pack", "(II)I"⟩, prog_1_method_7_code, 4, (some .int), { frames := 1, cells := 0, slots := 0, locals := 23 }, [(0, 1, .iload_n 1), (1, 3, .invokestatic 118), (4, 3, .ifCond .eq 14), (7, 1, .aload_n 0), (8, 3, .getfield 12), (11, 1, .iload_n 2), (12, 3, .invokevirtual 121), (15, 3, .ifCond .ne 5), (18, 1, .iconst (-1)), (19, 1, .ireturn), (20, 1, .aload_n 0), (21, 3, .getfield 12), (24, 3, .getfield 124), (27, 1, .iload_n 1), (28, 1, .iaload), (29, 1, .istore_n 3), (30, 1, .aload_n 0), (31, 3, .getfield 12), (34, 3, .getfield 124), (37, 1, .iload_n 1), (38, 1, .iload_n 2), (39, 1, .iastore), (40, 1, .aload_n 0), (41, 3, .getfield 37), (44, 1, .iload_n 1), (45, 1, .iload_n 2), (46, 3, .invokevirtual 127), (49, 1, .aload_n 0), (50, 3, .getfield 37), (53, 1, .iconst 2), (54, 1, .iload_n 1), (55, 1, .iadd), (56, 1, .iconst 0), (57, 3, .invokevirtual 127), (60, 1, .iload_n 3), (61, 1, .ireturn)], [(12, 0, 8, 0, 3), (37, 0, 8, 5, 3), (118, 2, 73, 1, 0), (121, 1, 47, 1, 6), (124, 0, 6, 6, 3), (127, 1, 3, 2, 0)])
/-- NamesInBags.renew(IZ)Z -/
def nm_m75 : px_M := (⟨"NamesInBags", "renew", "(IZ)Z"⟩, prog_1_method_8_code, 3, (some .boolean), { frames := 1, cells := 0, slots := 0, locals := 20 }, [(0, 1, .iload_n 1), (1, 3, .invokestatic 118), (4, 3, .ifCond .ne 5), (7, 1, .iconst 0), (8, 1, .ireturn), (9, 1, .aload_n 0), (10, 3, .getfield 12), (13, 3, .getfield 131), (16, 1, .iload_n 1), (17, 1, .iload_n 2), (18, 1, .bastore), (19, 1, .iconst 1), (20, 1, .ireturn)], [(12, 0, 8, 0, 3), (118, 2, 73, 1, 0), (131, 0, 6, 7, 3)])
/-- NamesInBags.drawing(III)I -/
def nm_m76 : px_M := (⟨"NamesInBags", "drawing", "(III)I"⟩, prog_1_method_9_code, 4, (some .int), { frames := 1, cells := 0, slots := 0, locals := 24 }, [(0, 1, .iload_n 1), (1, 3, .invokestatic 96), (4, 3, .ifCond .eq 20), (7, 1, .iload_n 2), (8, 3, .invokestatic 118), (11, 3, .ifCond .eq 13), (14, 1, .iload_n 3), (15, 1, .iconst 1), (16, 3, .if_icmp .lt 8), (19, 1, .iload_n 3), (20, 1, .iconst 3), (21, 3, .if_icmp .le 5), (24, 1, .iconst (-1)), (25, 1, .ireturn), (26, 1, .aload_n 0), (27, 3, .getfield 12), (30, 3, .getfield 135), (33, 2, .bipush 6), (35, 3, .if_icmp .ge 14), (38, 1, .iload_n 1), (39, 1, .aload_n 0), (40, 3, .getfield 12), (43, 3, .invokevirtual 138), (46, 3, .if_icmp .ge 5), (49, 1, .iconst (-1)), (50, 1, .ireturn), (51, 1, .aload_n 0), (52, 3, .getfield 12), (55, 1, .iload_n 1), (56, 1, .iload_n 2), (57, 1, .iload_n 3), (58, 3, .invokevirtual 142), (61, 1, .ireturn)], [(12, 0, 8, 0, 3), (96, 2, 67, 1, 0), (118, 2, 73, 1, 0), (135, 0, 6, 8, 0), (138, 1, 44, 0, 6), (142, 1, 43, 3, 6)])
/-- NamesInBags.sign(I)I -/
def nm_m77 : px_M := (⟨"NamesInBags", "sign", "(I)I"⟩, prog_1_method_10_code, 2, (some .int), { frames := 1, cells := 0, slots := 0, locals := 22 }, [(0, 1, .aload_n 0), (1, 3, .getfield 19), (4, 1, .iload_n 1), (5, 3, .invokevirtual 146), (8, 3, .ifCond .eq 13), (11, 1, .aload_n 0), (12, 3, .getfield 19), (15, 3, .getfield 149), (18, 3, .goto 4), (21, 1, .iconst (-1)), (22, 1, .ireturn)], [(19, 0, 8, 1, 3), (146, 1, 37, 1, 5), (149, 0, 5, 1, 0)])
/-- NamesInBags.end(I)Z -/
def nm_m78 : px_M := (⟨"NamesInBags", "end", "(I)Z"⟩, prog_1_method_11_code, 2, (some .boolean), { frames := 1, cells := 0, slots := 0, locals := 21 }, [(0, 1, .aload_n 0), (1, 3, .getfield 19), (4, 1, .iload_n 1), (5, 3, .invokevirtual 152), (8, 1, .ireturn)], [(19, 0, 8, 1, 3), (152, 1, 38, 1, 5)])
/-- NamesInBags.readInto(LNamesInBags$Rule;)I -/
def nm_m79 : px_M := (⟨"NamesInBags", "readInto", "(LNamesInBags$Rule;)I"⟩, prog_1_method_54_code, 3, (some .int), { frames := 2, cells := 0, slots := 0, locals := 43 }, [(0, 1, .aload_n 0), (1, 3, .getfield 19), (4, 3, .invokevirtual 363), (7, 1, .istore_n 2), (8, 1, .iload_n 2), (9, 3, .ifCond .ge 11), (12, 1, .aload_n 1), (13, 1, .aload_n 0), (14, 3, .getfield 19), (17, 3, .invokevirtual 366), (20, 1, .aload_n 0), (21, 3, .getfield 19), (24, 1, .iconst 0), (25, 3, .invokevirtual 152), (28, 1, .pop), (29, 1, .iload_n 2), (30, 3, .ifCond .ge 10), (33, 1, .aload_n 1), (34, 3, .getfield 345), (37, 3, .goto 6), (40, 1, .iconst (-1)), (41, 1, .iload_n 2), (42, 1, .isub), (43, 1, .ireturn)], [(19, 0, 8, 1, 3), (152, 1, 38, 1, 5), (345, 0, 3, 3, 0), (363, 1, 40, 0, 5), (366, 1, 30, 1, 3)])
/-- NamesInBags.rule()I -/
def nm_m80 : px_M := (⟨"NamesInBags", "rule", "()I"⟩, prog_1_method_12_code, 1, (some .int), { frames := 3, cells := 0, slots := 0, locals := 65 }, [(0, 1, .aload_n 0), (1, 1, .aload_n 0), (2, 3, .getfield 26), (5, 3, .invokevirtual 155), (8, 1, .ireturn)], [(26, 0, 8, 2, 3), (155, 1, 79, 1, 8)])
/-- NamesInBags.other(I)I -/
def nm_m81 : px_M := (⟨"NamesInBags", "other", "(I)I"⟩, prog_1_method_13_code, 3, (some .int), { frames := 3, cells := 0, slots := 0, locals := 65 }, [(0, 1, .iload_n 1), (1, 3, .ifCond .lt 8), (4, 1, .iload_n 1), (5, 1, .iconst 3), (6, 3, .if_icmp .lt 15), (9, 1, .aload_n 0), (10, 3, .getfield 19), (13, 1, .iconst 0), (14, 3, .invokevirtual 152), (17, 1, .pop), (18, 2, .bipush (-100)), (20, 1, .ireturn), (21, 1, .aload_n 0), (22, 1, .aload_n 0), (23, 3, .getfield 30), (26, 1, .iload_n 1), (27, 1, .aaload), (28, 3, .invokevirtual 155), (31, 1, .istore_n 2), (32, 1, .iload_n 2), (33, 3, .ifCond .lt 15), (36, 1, .aload_n 0), (37, 1, .dup), (38, 3, .getfield 159), (41, 1, .iconst 1), (42, 1, .iload_n 1), (43, 1, .ishl), (44, 1, .ior), (45, 3, .putfield 159), (48, 1, .iload_n 2), (49, 1, .ireturn)], [(19, 0, 8, 1, 3), (30, 0, 8, 3, 3), (152, 1, 38, 1, 5), (155, 1, 79, 1, 8), (159, 0, 8, 4, 0)])
/-- NamesInBags.isDrawingLeft()Z -/
def nm_m82 : px_M := (⟨"NamesInBags", "isDrawingLeft", "()Z"⟩, prog_1_method_47_code, 1, (some .boolean), { frames := 0, cells := 0, slots := 0, locals := 0 }, [(0, 1, .aload_n 0), (1, 3, .getfield 37), (4, 3, .getfield 216), (7, 1, .aload_n 0), (8, 3, .getfield 12), (11, 3, .getfield 135), (14, 3, .if_icmp .ge 7), (17, 1, .iconst 1), (18, 3, .goto 4), (21, 1, .iconst 0), (22, 1, .ireturn)], [(12, 0, 8, 0, 3), (37, 0, 8, 5, 3), (135, 0, 6, 8, 0), (216, 0, 0, 2, 0)])
/-- NamesInBags.readyNow()V -/
def nm_m83 : px_M := (⟨"NamesInBags", "readyNow", "()V"⟩, prog_1_method_55_code, 1, none, { frames := 2, cells := 0, slots := 0, locals := 46 }, [(0, 1, .aload_n 0), (1, 3, .getfield 49), (4, 1, .aload_n 0), (5, 3, .getfield 26), (8, 1, .aload_n 0), (9, 3, .getfield 12), (12, 3, .getfield 124), (15, 1, .iconst 0), (16, 1, .iaload), (17, 1, .aload_n 0), (18, 3, .getfield 12), (21, 3, .getfield 124), (24, 1, .iconst 1), (25, 1, .iaload), (26, 1, .iconst 0), (27, 3, .invokevirtual 295), (30, 1, .aload_n 0), (31, 3, .getfield 49), (34, 1, .aload_n 0), (35, 3, .getfield 37), (38, 3, .getfield 216), (41, 3, .invokevirtual 370), (44, 1, .return_)], [(12, 0, 8, 0, 3), (26, 0, 8, 2, 3), (37, 0, 8, 5, 3), (49, 0, 8, 7, 3), (124, 0, 6, 6, 3), (216, 0, 0, 2, 0), (295, 1, 17, 4, 1), (370, 1, 23, 1, 1)])
/-- NamesInBags.bars(I)I -/
def nm_m84 : px_M := (⟨"NamesInBags", "bars", "(I)I"⟩, prog_1_method_14_code, 3, (some .int), { frames := 3, cells := 0, slots := 0, locals := 71 }, [(0, 1, .aload_n 0), (1, 3, .getfield 12), (4, 1, .iload_n 1), (5, 3, .invokevirtual 92), (8, 3, .ifCond .eq 10), (11, 1, .aload_n 0), (12, 3, .invokevirtual 162), (15, 3, .ifCond .ne 5), (18, 1, .iconst (-1)), (19, 1, .ireturn), (20, 1, .aload_n 0), (21, 3, .invokevirtual 166), (24, 1, .aload_n 0), (25, 3, .getfield 49), (28, 3, .getfield 169), (31, 1, .iload_n 1), (32, 1, .ishr), (33, 1, .iconst 1), (34, 1, .iand), (35, 3, .ifCond .eq 6), (38, 2, .bipush (-3)), (40, 1, .ireturn), (41, 1, .aload_n 0), (42, 3, .getfield 49), (45, 1, .aload_n 0), (46, 3, .getfield 37), (49, 3, .getfield 172), (52, 1, .iload_n 1), (53, 3, .invokevirtual 175), (56, 1, .istore_n 2), (57, 1, .iload_n 2), (58, 3, .ifCond .ge 8), (61, 2, .bipush (-2)), (63, 3, .goto 4), (66, 1, .iload_n 2), (67, 1, .ireturn)], [(12, 0, 8, 0, 3), (37, 0, 8, 5, 3), (49, 0, 8, 7, 3), (92, 1, 46, 1, 6), (162, 1, 82, 0, 8), (166, 1, 83, 0, 8), (169, 0, 1, 7, 0), (172, 0, 0, 1, 0), (175, 1, 24, 2, 1)])
/-- NamesInBags.drawSlip(I)I -/
def nm_m85 : px_M := (⟨"NamesInBags", "drawSlip", "(I)I"⟩, prog_1_method_56_code, 5, (some .int), { frames := 1, cells := 0, slots := 0, locals := 20 }, [(0, 1, .aload_n 0), (1, 1, .aload_n 0), (2, 3, .getfield 71), (5, 3, .ldc_w 373), (8, 1, .imul), (9, 3, .sipush 12345), (12, 1, .iadd), (13, 3, .putfield 71), (16, 1, .iload_n 1), (17, 3, .invokestatic 322), (20, 1, .istore_n 2), (21, 1, .iload_n 2), (22, 3, .ifCond .le 15), (25, 1, .aload_n 0), (26, 3, .getfield 71), (29, 2, .bipush 16), (31, 1, .iushr), (32, 1, .iload_n 2), (33, 1, .irem), (34, 3, .goto 4), (37, 1, .iconst 0), (38, 1, .istore_n 3), (39, 1, .iconst 0), (40, 2, .istore 4), (42, 2, .iload 4), (44, 2, .bipush 10), (46, 3, .if_icmp .ge 28), (49, 1, .iload_n 1), (50, 2, .iload 4), (52, 1, .ishr), (53, 1, .iconst 1), (54, 1, .iand), (55, 3, .ifCond .eq 13), (58, 1, .iload_n 3), (59, 3, .ifCond .ne 6), (62, 2, .iload 4), (64, 1, .ireturn), (65, 3, .iinc 3 (-1)), (68, 3, .iinc 4 1), (71, 3, .goto (-29)), (74, 1, .iconst 0), (75, 1, .ireturn)], [(71, 0, 8, 11, 0), (322, 2, 11, 1, 0), (373, 3, 0, 0, 1103515245)])
/-- NamesInBags.run()I -/
def nm_m86 : px_M := (⟨"NamesInBags", "run", "()I"⟩, prog_1_method_15_code, 4, (some .int), { frames := 4, cells := 0, slots := 0, locals := 95 }, [(0, 1, .aload_n 0), (1, 3, .invokevirtual 162), (4, 3, .ifCond .ne 5), (7, 1, .iconst (-1)), (8, 1, .ireturn), (9, 1, .aload_n 0), (10, 3, .invokevirtual 166), (13, 1, .aload_n 0), (14, 3, .getfield 37), (17, 1, .aload_n 0), (18, 3, .getfield 49), (21, 3, .invokevirtual 178), (24, 1, .aload_n 0), (25, 3, .getfield 63), (28, 3, .invokevirtual 182), (31, 1, .iconst 0), (32, 1, .istore_n 1), (33, 1, .iload_n 1), (34, 2, .bipush 10), (36, 3, .if_icmp .ge 109), (39, 1, .aload_n 0), (40, 3, .getfield 37), (43, 1, .aload_n 0), (44, 3, .getfield 49), (47, 3, .invokevirtual 185), (50, 3, .ifCond .ne 95), (53, 1, .aload_n 0), (54, 1, .aload_n 0), (55, 3, .getfield 37), (58, 1, .aload_n 0), (59, 3, .getfield 49), (62, 3, .getfield 189), (65, 3, .invokevirtual 192), (68, 3, .invokevirtual 195), (71, 1, .istore_n 2), (72, 1, .aload_n 0), (73, 3, .getfield 49), (76, 1, .aload_n 0), (77, 3, .getfield 37), (80, 1, .aload_n 0), (81, 3, .getfield 49), (84, 3, .getfield 189), (87, 3, .invokevirtual 192), (90, 1, .aload_n 0), (91, 3, .getfield 37), (94, 1, .iconst 5), (95, 3, .invokevirtual 192), (98, 1, .aload_n 0), (99, 3, .getfield 37), (102, 3, .getfield 172), (105, 3, .invokevirtual 198), (108, 1, .aload_n 0), (109, 3, .getfield 67), (112, 1, .iload_n 1), (113, 1, .iload_n 2), (114, 1, .iastore), (115, 3, .iinc 1 1), (118, 1, .aload_n 0), (119, 3, .getfield 37), (122, 1, .aload_n 0), (123, 3, .getfield 49), (126, 1, .iload_n 2), (127, 3, .invokevirtual 202), (130, 3, .ifCond .eq 12), (133, 1, .aload_n 0), (134, 3, .getfield 63), (137, 1, .iload_n 2), (138, 1, .i2l), (139, 3, .invokevirtual 206), (142, 3, .goto (-109)), (145, 1, .aload_n 0), (146, 3, .getfield 63), (149, 3, .getfield 210), (152, 1, .istore_n 2), (153, 1, .iconst 0), (154, 1, .istore_n 3), (155, 1, .iload_n 3), (156, 1, .iload_n 1), (157, 3, .if_icmp .ge 23), (160, 1, .aload_n 0), (161, 3, .getfield 63), (164, 1, .aload_n 0), (165, 3, .getfield 67), (168, 1, .iload_n 3), (169, 1, .iaload), (170, 1, .i2l), (171, 3, .invokevirtual 206), (174, 3, .iinc 3 1), (177, 3, .goto (-22)), (180, 1, .aload_n 0), (181, 3, .getfield 37), (184, 1, .aload_n 0), (185, 3, .getfield 49), (188, 3, .invokevirtual 213), (191, 1, .aload_n 0), (192, 3, .getfield 37), (195, 1, .dup), (196, 3, .getfield 216), (199, 1, .iconst 1), (200, 1, .iadd), (201, 3, .putfield 216), (204, 1, .iload_n 2), (205, 1, .ireturn)], [(37, 0, 8, 5, 3), (49, 0, 8, 7, 3), (63, 0, 8, 9, 3), (67, 0, 8, 10, 3), (162, 1, 82, 0, 8), (166, 1, 83, 0, 8), (172, 0, 0, 1, 0), (178, 1, 10, 1, 0), (182, 1, 27, 0, 2), (185, 1, 12, 1, 0), (189, 0, 1, 5, 0), (192, 1, 5, 1, 0), (195, 1, 85, 1, 8), (198, 1, 25, 3, 1), (202, 1, 13, 2, 0), (206, 1, 28, 1, 2), (210, 0, 2, 1, 0), (213, 1, 14, 1, 0), (216, 0, 0, 2, 0)])
/-- NamesInBags.slipAt(JI)I -/
def nm_m87 : px_M := (⟨"NamesInBags", "slipAt", "(JI)I"⟩, prog_1_method_57_code, 3, (some .int), { frames := 0, cells := 0, slots := 0, locals := 0 }, [(0, 1, .lload_n 0), (1, 1, .iconst 4), (2, 1, .iload_n 2), (3, 1, .imul), (4, 1, .lushr), (5, 1, .l2i), (6, 2, .bipush 15), (8, 1, .iand), (9, 1, .ireturn)], [])
/-- NamesInBags.areSlips(JI)Z -/
def nm_m88 : px_M := (⟨"NamesInBags", "areSlips", "(JI)Z"⟩, prog_1_method_58_code, 4, (some .boolean), { frames := 1, cells := 0, slots := 0, locals := 22 }, [(0, 1, .iload_n 2), (1, 3, .ifCond .lt 9), (4, 1, .iload_n 2), (5, 2, .bipush 10), (7, 3, .if_icmp .le 5), (10, 1, .iconst 0), (11, 1, .ireturn), (12, 1, .iconst 0), (13, 1, .istore_n 3), (14, 1, .iload_n 3), (15, 1, .iload_n 2), (16, 3, .if_icmp .ge 21), (19, 1, .lload_n 0), (20, 1, .iload_n 3), (21, 3, .invokestatic 374), (24, 2, .bipush 10), (26, 3, .if_icmp .lt 5), (29, 1, .iconst 0), (30, 1, .ireturn), (31, 3, .iinc 3 1), (34, 3, .goto (-20)), (37, 1, .iconst 1), (38, 1, .ireturn)], [(374, 2, 87, 2, 0)])
/-- NamesInBags.follow(JI)I -/
def nm_m89 : px_M := (⟨"NamesInBags", "follow", "(JI)I"⟩, prog_1_method_59_code, 6, (some .int), { frames := 4, cells := 0, slots := 0, locals := 95 }, [(0, 1, .aload_n 0), (1, 3, .invokevirtual 166), (4, 1, .aload_n 0), (5, 3, .getfield 41), (8, 1, .aload_n 0), (9, 3, .getfield 37), (12, 3, .invokevirtual 227), (15, 1, .aload_n 0), (16, 3, .getfield 41), (19, 1, .aload_n 0), (20, 3, .getfield 49), (23, 3, .invokevirtual 178), (26, 1, .iconst 0), (27, 2, .istore 4), (29, 2, .iload 4), (31, 1, .iload_n 3), (32, 3, .if_icmp .ge 106), (35, 1, .lload_n 1), (36, 2, .iload 4), (38, 3, .invokestatic 374), (41, 2, .istore 5), (43, 1, .aload_n 0), (44, 3, .getfield 41), (47, 1, .aload_n 0), (48, 3, .getfield 49), (51, 3, .invokevirtual 185), (54, 3, .ifCond .ne 25), (57, 1, .aload_n 0), (58, 3, .getfield 41), (61, 1, .aload_n 0), (62, 3, .getfield 49), (65, 3, .getfield 189), (68, 3, .invokevirtual 192), (71, 2, .iload 5), (73, 1, .ishr), (74, 1, .iconst 1), (75, 1, .iand), (76, 3, .ifCond .ne 6), (79, 2, .iload 4), (81, 1, .ireturn), (82, 1, .aload_n 0), (83, 3, .getfield 49), (86, 1, .aload_n 0), (87, 3, .getfield 41), (90, 1, .aload_n 0), (91, 3, .getfield 49), (94, 3, .getfield 189), (97, 3, .invokevirtual 192), (100, 1, .aload_n 0), (101, 3, .getfield 41), (104, 1, .iconst 5), (105, 3, .invokevirtual 192), (108, 1, .aload_n 0), (109, 3, .getfield 41), (112, 3, .getfield 172), (115, 3, .invokevirtual 198), (118, 1, .aload_n 0), (119, 3, .getfield 41), (122, 1, .aload_n 0), (123, 3, .getfield 49), (126, 2, .iload 5), (128, 3, .invokevirtual 202), (131, 1, .pop), (132, 3, .iinc 4 1), (135, 3, .goto (-106)), (138, 1, .iload_n 3), (139, 1, .ireturn)], [(37, 0, 8, 5, 3), (41, 0, 8, 6, 3), (49, 0, 8, 7, 3), (166, 1, 83, 0, 8), (172, 0, 0, 1, 0), (178, 1, 10, 1, 0), (185, 1, 12, 1, 0), (189, 0, 1, 5, 0), (192, 1, 5, 1, 0), (198, 1, 25, 3, 1), (202, 1, 13, 2, 0), (227, 1, 1, 1, 0), (374, 2, 87, 2, 0)])
/-- NamesInBags.judge(JI)I -/
def nm_m90 : px_M := (⟨"NamesInBags", "judge", "(JI)I"⟩, prog_1_method_16_code, 4, (some .int), { frames := 5, cells := 0, slots := 0, locals := 120 }, [(0, 1, .aload_n 0), (1, 3, .invokevirtual 162), (4, 3, .ifCond .eq 11), (7, 1, .lload_n 1), (8, 1, .iload_n 3), (9, 3, .invokestatic 219), (12, 3, .ifCond .ne 5), (15, 1, .iconst (-1)), (16, 1, .ireturn), (17, 1, .aload_n 0), (18, 1, .lload_n 1), (19, 1, .iload_n 3), (20, 3, .invokevirtual 223), (23, 1, .ireturn)], [(162, 1, 82, 0, 8), (219, 2, 88, 2, 0), (223, 1, 89, 2, 8)])
/-- NamesInBags.hold(JI)Z -/
def nm_m91 : px_M := (⟨"NamesInBags", "hold", "(JI)Z"⟩, prog_1_method_17_code, 4, (some .boolean), { frames := 5, cells := 0, slots := 0, locals := 120 }, [(0, 1, .aload_n 0), (1, 3, .invokevirtual 162), (4, 3, .ifCond .eq 11), (7, 1, .lload_n 1), (8, 1, .iload_n 3), (9, 3, .invokestatic 219), (12, 3, .ifCond .ne 5), (15, 1, .iconst 0), (16, 1, .ireturn), (17, 1, .aload_n 0), (18, 1, .lload_n 1), (19, 1, .iload_n 3), (20, 3, .invokevirtual 223), (23, 1, .iload_n 3), (24, 3, .if_icmp .ne 17), (27, 1, .aload_n 0), (28, 3, .getfield 41), (31, 1, .aload_n 0), (32, 3, .getfield 49), (35, 3, .invokevirtual 185), (38, 3, .ifCond .ne 5), (41, 1, .iconst 0), (42, 1, .ireturn), (43, 1, .aload_n 0), (44, 3, .getfield 41), (47, 1, .aload_n 0), (48, 3, .getfield 49), (51, 3, .invokevirtual 213), (54, 1, .aload_n 0), (55, 3, .getfield 37), (58, 1, .aload_n 0), (59, 3, .getfield 41), (62, 3, .invokevirtual 227), (65, 1, .aload_n 0), (66, 3, .getfield 37), (69, 1, .dup), (70, 3, .getfield 216), (73, 1, .iconst 1), (74, 1, .iadd), (75, 3, .putfield 216), (78, 1, .iconst 1), (79, 1, .ireturn)], [(37, 0, 8, 5, 3), (41, 0, 8, 6, 3), (49, 0, 8, 7, 3), (162, 1, 82, 0, 8), (185, 1, 12, 1, 0), (213, 1, 14, 1, 0), (216, 0, 0, 2, 0), (219, 2, 88, 2, 0), (223, 1, 89, 2, 8), (227, 1, 1, 1, 0)])
/-- NamesInBags.begin()I -/
def nm_m92 : px_M := (⟨"NamesInBags", "begin", "()I"⟩, prog_1_method_18_code, 2, (some .int), { frames := 2, cells := 0, slots := 0, locals := 45 }, [(0, 1, .aload_n 0), (1, 3, .getfield 37), (4, 3, .getfield 216), (7, 1, .istore_n 1), (8, 1, .aload_n 0), (9, 3, .getfield 37), (12, 1, .aload_n 0), (13, 3, .getfield 12), (16, 3, .getfield 124), (19, 1, .iconst 0), (20, 1, .iaload), (21, 1, .aload_n 0), (22, 3, .getfield 12), (25, 3, .getfield 124), (28, 1, .iconst 1), (29, 1, .iaload), (30, 3, .invokevirtual 231), (33, 1, .iload_n 1), (34, 1, .ireturn)], [(12, 0, 8, 0, 3), (37, 0, 8, 5, 3), (124, 0, 6, 6, 3), (216, 0, 0, 2, 0), (231, 1, 4, 2, 0)])
/-- NamesInBags.bag(II)I -/
def nm_m93 : px_M := (⟨"NamesInBags", "bag", "(II)I"⟩, prog_1_method_19_code, 3, (some .int), { frames := 1, cells := 0, slots := 0, locals := 21 }, [(0, 1, .iload_n 1), (1, 3, .invokestatic 118), (4, 3, .ifCond .eq 12), (7, 1, .iload_n 2), (8, 3, .ifCond .lt 8), (11, 1, .iload_n 2), (12, 1, .iconst 1), (13, 3, .if_icmp .le 5), (16, 1, .iconst (-1)), (17, 1, .ireturn), (18, 1, .aload_n 0), (19, 3, .getfield 37), (22, 1, .iload_n 2), (23, 3, .ifCond .ne 7), (26, 1, .iload_n 1), (27, 3, .goto 6), (30, 1, .iconst 2), (31, 1, .iload_n 1), (32, 1, .iadd), (33, 3, .invokevirtual 192), (36, 1, .ireturn)], [(37, 0, 8, 5, 3), (118, 2, 73, 1, 0), (192, 1, 5, 1, 0)])
/-- NamesInBags.sat(I)I -/
def nm_m94 : px_M := (⟨"NamesInBags", "sat", "(I)I"⟩, prog_1_method_20_code, 3, (some .int), { frames := 1, cells := 0, slots := 0, locals := 21 }, [(0, 1, .aload_n 0), (1, 3, .getfield 12), (4, 1, .iload_n 1), (5, 3, .invokevirtual 92), (8, 3, .ifCond .ne 5), (11, 1, .iconst (-1)), (12, 1, .ireturn), (13, 1, .aload_n 0), (14, 3, .getfield 37), (17, 3, .getfield 172), (20, 1, .iload_n 1), (21, 3, .invokestatic 234), (24, 1, .istore_n 2), (25, 1, .iload_n 2), (26, 3, .ifCond .ge 8), (29, 2, .bipush (-2)), (31, 3, .goto 4), (34, 1, .iload_n 2), (35, 1, .ireturn)], [(12, 0, 8, 0, 3), (37, 0, 8, 5, 3), (92, 1, 46, 1, 6), (172, 0, 0, 1, 0), (234, 2, 57, 2, 0)])
/-- NamesInBags.isAhead(I)Z -/
def nm_m95 : px_M := (⟨"NamesInBags", "isAhead", "(I)Z"⟩, prog_1_method_48_code, 2, (some .boolean), { frames := 0, cells := 0, slots := 0, locals := 0 }, [(0, 1, .iload_n 1), (1, 1, .aload_n 0), (2, 3, .getfield 37), (5, 3, .getfield 216), (8, 3, .if_icmp .lt 18), (11, 1, .iload_n 1), (12, 1, .aload_n 0), (13, 3, .getfield 12), (16, 3, .getfield 135), (19, 3, .if_icmp .ge 7), (22, 1, .iconst 1), (23, 3, .goto 4), (26, 1, .iconst 0), (27, 1, .ireturn)], [(12, 0, 8, 0, 3), (37, 0, 8, 5, 3), (135, 0, 6, 8, 0), (216, 0, 0, 2, 0)])
/-- NamesInBags.walkBy(LNamesInBags$Rule;II)Z -/
def nm_m96 : px_M := (⟨"NamesInBags", "walkBy", "(LNamesInBags$Rule;II)Z"⟩, prog_1_method_60_code, 6, (some .boolean), { frames := 6, cells := 0, slots := 0, locals := 145 }, [(0, 1, .aload_n 0), (1, 3, .getfield 49), (4, 1, .aload_n 1), (5, 1, .aload_n 0), (6, 3, .getfield 12), (9, 3, .getfield 124), (12, 1, .iconst 0), (13, 1, .iaload), (14, 1, .aload_n 0), (15, 3, .getfield 12), (18, 3, .getfield 124), (21, 1, .iconst 1), (22, 1, .iaload), (23, 1, .iload_n 2), (24, 3, .invokevirtual 295), (27, 1, .aload_n 0), (28, 3, .getfield 56), (31, 1, .aload_n 0), (32, 3, .getfield 37), (35, 3, .invokevirtual 299), (38, 1, .iconst 1), (39, 2, .istore 4), (41, 1, .aload_n 0), (42, 3, .getfield 37), (45, 3, .getfield 216), (48, 2, .istore 5), (50, 2, .iload 5), (52, 1, .iload_n 3), (53, 3, .if_icmp .gt 29), (56, 2, .iload 4), (58, 3, .ifCond .eq 24), (61, 1, .aload_n 0), (62, 3, .getfield 56), (65, 1, .aload_n 0), (66, 3, .getfield 49), (69, 2, .iload 5), (71, 3, .invokevirtual 302), (74, 2, .istore 4), (76, 3, .iinc 5 1), (79, 3, .goto (-29)), (82, 2, .iload 4), (84, 1, .ireturn)], [(12, 0, 8, 0, 3), (37, 0, 8, 5, 3), (49, 0, 8, 7, 3), (56, 0, 8, 8, 3), (124, 0, 6, 6, 3), (216, 0, 0, 2, 0), (295, 1, 17, 4, 1), (299, 1, 49, 1, 7), (302, 1, 53, 2, 7)])
/-- NamesInBags.chance(II)I -/
def nm_m97 : px_M := (⟨"NamesInBags", "chance", "(II)I"⟩, prog_1_method_21_code, 3, (some .int), { frames := 7, cells := 0, slots := 0, locals := 170 }, [(0, 1, .aload_n 0), (1, 3, .getfield 12), (4, 1, .iload_n 1), (5, 3, .invokevirtual 92), (8, 3, .ifCond .eq 11), (11, 1, .aload_n 0), (12, 1, .iload_n 2), (13, 3, .invokevirtual 237), (16, 3, .ifCond .ne 5), (19, 1, .iconst (-1)), (20, 1, .ireturn), (21, 1, .aload_n 0), (22, 1, .aload_n 0), (23, 3, .getfield 26), (26, 1, .iconst 0), (27, 1, .iload_n 2), (28, 3, .invokevirtual 240), (31, 3, .ifCond .ne 6), (34, 2, .bipush (-3)), (36, 1, .ireturn), (37, 1, .aload_n 0), (38, 3, .getfield 63), (41, 1, .aload_n 0), (42, 3, .getfield 56), (45, 1, .iconst 1), (46, 1, .iload_n 1), (47, 1, .ishl), (48, 3, .invokevirtual 244), (51, 3, .invokevirtual 248), (54, 1, .iconst 0), (55, 1, .ireturn)], [(12, 0, 8, 0, 3), (26, 0, 8, 2, 3), (56, 0, 8, 8, 3), (63, 0, 8, 9, 3), (92, 1, 46, 1, 6), (237, 1, 95, 1, 8), (240, 1, 96, 3, 8), (244, 1, 56, 1, 7), (248, 1, 29, 1, 2)])
/-- NamesInBags.each(I)I -/
def nm_m98 : px_M := (⟨"NamesInBags", "each", "(I)I"⟩, prog_1_method_22_code, 3, (some .int), { frames := 7, cells := 0, slots := 0, locals := 170 }, [(0, 1, .aload_n 0), (1, 1, .iload_n 1), (2, 3, .invokevirtual 237), (5, 3, .ifCond .ne 5), (8, 1, .iconst (-1)), (9, 1, .ireturn), (10, 1, .aload_n 0), (11, 1, .aload_n 0), (12, 3, .getfield 26), (15, 1, .iconst 0), (16, 1, .iload_n 1), (17, 3, .invokevirtual 240), (20, 3, .ifCond .ne 6), (23, 2, .bipush (-3)), (25, 1, .ireturn), (26, 1, .aload_n 0), (27, 3, .getfield 63), (30, 3, .invokevirtual 182), (33, 1, .iconst 0), (34, 1, .istore_n 2), (35, 1, .iload_n 2), (36, 1, .aload_n 0), (37, 3, .getfield 12), (40, 3, .getfield 85), (43, 3, .if_icmp .ge 26), (46, 1, .aload_n 0), (47, 3, .getfield 63), (50, 1, .aload_n 0), (51, 3, .getfield 56), (54, 1, .iconst 1), (55, 1, .iload_n 2), (56, 1, .ishl), (57, 3, .invokevirtual 244), (60, 3, .invokevirtual 206), (63, 3, .iinc 2 1), (66, 3, .goto (-31)), (69, 1, .iconst 0), (70, 1, .ireturn)], [(12, 0, 8, 0, 3), (26, 0, 8, 2, 3), (56, 0, 8, 8, 3), (63, 0, 8, 9, 3), (85, 0, 6, 0, 0), (182, 1, 27, 0, 2), (206, 1, 28, 1, 2), (237, 1, 95, 1, 8), (240, 1, 96, 3, 8), (244, 1, 56, 1, 7)])
/-- NamesInBags.ever(I)I -/
def nm_m99 : px_M := (⟨"NamesInBags", "ever", "(I)I"⟩, prog_1_method_23_code, 2, (some .int), { frames := 7, cells := 0, slots := 0, locals := 170 }, [(0, 1, .aload_n 0), (1, 3, .getfield 12), (4, 1, .iload_n 1), (5, 3, .invokevirtual 92), (8, 3, .ifCond .eq 10), (11, 1, .aload_n 0), (12, 3, .invokevirtual 162), (15, 3, .ifCond .ne 5), (18, 1, .iconst (-1)), (19, 1, .ireturn), (20, 1, .aload_n 0), (21, 1, .aload_n 0), (22, 3, .getfield 26), (25, 1, .iconst 0), (26, 1, .aload_n 0), (27, 3, .getfield 12), (30, 3, .getfield 135), (33, 1, .iconst 1), (34, 1, .isub), (35, 3, .invokevirtual 240), (38, 3, .ifCond .ne 6), (41, 2, .bipush (-3)), (43, 1, .ireturn), (44, 1, .aload_n 0), (45, 3, .getfield 63), (48, 1, .aload_n 0), (49, 3, .getfield 56), (52, 1, .iload_n 1), (53, 1, .aload_n 0), (54, 3, .getfield 37), (57, 3, .getfield 216), (60, 3, .invokevirtual 251), (63, 3, .invokevirtual 248), (66, 1, .iconst 0), (67, 1, .ireturn)], [(12, 0, 8, 0, 3), (26, 0, 8, 2, 3), (37, 0, 8, 5, 3), (56, 0, 8, 8, 3), (63, 0, 8, 9, 3), (92, 1, 46, 1, 6), (135, 0, 6, 8, 0), (162, 1, 82, 0, 8), (216, 0, 0, 2, 0), (240, 1, 96, 3, 8), (248, 1, 29, 1, 2), (251, 1, 58, 2, 7)])
/-- NamesInBags.empty(I)I -/
def nm_m100 : px_M := (⟨"NamesInBags", "empty", "(I)I"⟩, prog_1_method_24_code, 4, (some .int), { frames := 7, cells := 0, slots := 0, locals := 170 }, [(0, 1, .aload_n 0), (1, 1, .iload_n 1), (2, 3, .invokevirtual 237), (5, 3, .ifCond .ne 5), (8, 1, .iconst (-1)), (9, 1, .ireturn), (10, 1, .aload_n 0), (11, 1, .aload_n 0), (12, 3, .getfield 26), (15, 1, .iconst 0), (16, 1, .iload_n 1), (17, 3, .invokevirtual 240), (20, 3, .ifCond .ne 6), (23, 2, .bipush (-3)), (25, 1, .ireturn), (26, 1, .aload_n 0), (27, 3, .getfield 12), (30, 3, .getfield 255), (33, 1, .iload_n 1), (34, 1, .iaload), (35, 1, .istore_n 2), (36, 1, .aload_n 0), (37, 3, .getfield 63), (40, 1, .aload_n 0), (41, 3, .getfield 56), (44, 1, .iload_n 2), (45, 3, .invokevirtual 258), (48, 3, .invokevirtual 248), (51, 1, .iconst 0), (52, 1, .istore_n 3), (53, 1, .iload_n 3), (54, 1, .iload_n 2), (55, 3, .if_icmp .gt 24), (58, 1, .aload_n 0), (59, 3, .getfield 63), (62, 1, .aload_n 0), (63, 3, .getfield 56), (66, 1, .iload_n 3), (67, 3, .invokevirtual 261), (70, 3, .invokevirtual 206), (73, 3, .iinc 3 1), (76, 3, .goto (-23)), (79, 1, .iconst 0), (80, 1, .ireturn)], [(12, 0, 8, 0, 3), (26, 0, 8, 2, 3), (56, 0, 8, 8, 3), (63, 0, 8, 9, 3), (206, 1, 28, 1, 2), (237, 1, 95, 1, 8), (240, 1, 96, 3, 8), (248, 1, 29, 1, 2), (255, 0, 6, 11, 3), (258, 1, 60, 1, 7), (261, 1, 59, 1, 7)])
/-- NamesInBags.vain(I)I -/
def nm_m101 : px_M := (⟨"NamesInBags", "vain", "(I)I"⟩, prog_1_method_25_code, 2, (some .int), { frames := 7, cells := 0, slots := 0, locals := 170 }, [(0, 1, .aload_n 0), (1, 1, .iload_n 1), (2, 3, .invokevirtual 237), (5, 3, .ifCond .ne 5), (8, 1, .iconst (-1)), (9, 1, .ireturn), (10, 1, .aload_n 0), (11, 1, .aload_n 0), (12, 3, .getfield 26), (15, 1, .iconst 0), (16, 1, .iload_n 1), (17, 3, .invokevirtual 240), (20, 3, .ifCond .ne 6), (23, 2, .bipush (-3)), (25, 1, .ireturn), (26, 1, .aload_n 0), (27, 3, .getfield 63), (30, 1, .aload_n 0), (31, 3, .getfield 56), (34, 3, .getfield 264), (37, 3, .invokevirtual 248), (40, 1, .aload_n 0), (41, 3, .getfield 63), (44, 1, .aload_n 0), (45, 3, .getfield 56), (48, 3, .getfield 268), (51, 3, .invokevirtual 206), (54, 1, .iconst 0), (55, 1, .ireturn)], [(26, 0, 8, 2, 3), (56, 0, 8, 8, 3), (63, 0, 8, 9, 3), (206, 1, 28, 1, 2), (237, 1, 95, 1, 8), (240, 1, 96, 3, 8), (248, 1, 29, 1, 2), (264, 0, 7, 4, 0), (268, 0, 7, 5, 0)])
/-- NamesInBags.house(II)I -/
def nm_m102 : px_M := (⟨"NamesInBags", "house", "(II)I"⟩, prog_1_method_26_code, 7, (some .int), { frames := 7, cells := 0, slots := 0, locals := 170 }, [(0, 1, .iload_n 1), (1, 3, .ifCond .lt 17), (4, 1, .iload_n 1), (5, 2, .bipush 6), (7, 3, .if_icmp .ge 11), (10, 1, .aload_n 0), (11, 1, .iload_n 2), (12, 3, .invokevirtual 237), (15, 3, .ifCond .ne 5), (18, 1, .iconst (-1)), (19, 1, .ireturn), (20, 1, .aload_n 0), (21, 1, .aload_n 0), (22, 3, .getfield 26), (25, 1, .iconst 0), (26, 1, .iload_n 2), (27, 3, .invokevirtual 240), (30, 3, .ifCond .ne 6), (33, 2, .bipush (-3)), (35, 1, .ireturn), (36, 1, .aload_n 0), (37, 3, .getfield 12), (40, 1, .iload_n 1), (41, 3, .invokevirtual 271), (44, 1, .istore_n 3), (45, 1, .lconst 0), (46, 2, .lstore 4), (48, 1, .iconst 0), (49, 2, .istore 6), (51, 2, .iload 6), (53, 1, .aload_n 0), (54, 3, .getfield 12), (57, 3, .getfield 85), (60, 3, .if_icmp .ge 34), (63, 1, .iload_n 3), (64, 2, .iload 6), (66, 1, .ishr), (67, 1, .iconst 1), (68, 1, .iand), (69, 3, .ifCond .eq 19), (72, 2, .lload 4), (74, 1, .aload_n 0), (75, 3, .getfield 56), (78, 1, .iconst 1), (79, 2, .iload 6), (81, 1, .ishl), (82, 3, .invokevirtual 244), (85, 1, .ladd), (86, 2, .lstore 4), (88, 3, .iinc 6 1), (91, 3, .goto (-40)), (94, 1, .aload_n 0), (95, 3, .getfield 63), (98, 1, .aload_n 0), (99, 3, .getfield 56), (102, 1, .iload_n 3), (103, 3, .invokevirtual 244), (106, 3, .invokevirtual 248), (109, 1, .aload_n 0), (110, 3, .getfield 63), (113, 2, .lload 4), (115, 3, .invokevirtual 206), (118, 1, .iconst 0), (119, 1, .ireturn)], [(12, 0, 8, 0, 3), (26, 0, 8, 2, 3), (56, 0, 8, 8, 3), (63, 0, 8, 9, 3), (85, 0, 6, 0, 0), (206, 1, 28, 1, 2), (237, 1, 95, 1, 8), (240, 1, 96, 3, 8), (244, 1, 56, 1, 7), (248, 1, 29, 1, 2), (271, 1, 22, 1, 6)])
/-- NamesInBags.ways(I)I -/
def nm_m103 : px_M := (⟨"NamesInBags", "ways", "(I)I"⟩, prog_1_method_27_code, 2, (some .int), { frames := 7, cells := 0, slots := 0, locals := 170 }, [(0, 1, .aload_n 0), (1, 1, .iload_n 1), (2, 3, .invokevirtual 237), (5, 3, .ifCond .ne 5), (8, 1, .iconst (-1)), (9, 1, .ireturn), (10, 1, .aload_n 0), (11, 1, .aload_n 0), (12, 3, .getfield 26), (15, 1, .iconst 0), (16, 1, .iload_n 1), (17, 3, .invokevirtual 240), (20, 3, .ifCond .eq 16), (23, 1, .aload_n 0), (24, 3, .getfield 56), (27, 3, .getfield 274), (30, 3, .getfield 278), (33, 3, .goto 5), (36, 2, .bipush (-3)), (38, 1, .ireturn)], [(26, 0, 8, 2, 3), (56, 0, 8, 8, 3), (237, 1, 95, 1, 8), (240, 1, 96, 3, 8), (274, 0, 7, 2, 0), (278, 0, 4, 3, 0)])
/-- NamesInBags.sure(II)I -/
def nm_m104 : px_M := (⟨"NamesInBags", "sure", "(II)I"⟩, prog_1_method_28_code, 3, (some .int), { frames := 7, cells := 0, slots := 0, locals := 170 }, [(0, 1, .aload_n 0), (1, 1, .iload_n 1), (2, 3, .invokevirtual 237), (5, 3, .ifCond .eq 12), (8, 1, .iload_n 2), (9, 3, .ifCond .lt 8), (12, 1, .iload_n 2), (13, 1, .iconst 1), (14, 3, .if_icmp .le 5), (17, 1, .iconst (-1)), (18, 1, .ireturn), (19, 1, .aload_n 0), (20, 1, .aload_n 0), (21, 3, .getfield 26), (24, 1, .iconst 0), (25, 1, .iload_n 1), (26, 3, .invokevirtual 240), (29, 3, .ifCond .ne 6), (32, 2, .bipush (-3)), (34, 1, .ireturn), (35, 1, .iload_n 2), (36, 3, .ifCond .ne 13), (39, 1, .aload_n 0), (40, 3, .getfield 56), (43, 3, .invokevirtual 281), (46, 3, .goto 10), (49, 1, .aload_n 0), (50, 3, .getfield 56), (53, 3, .invokevirtual 284), (56, 1, .ireturn)], [(26, 0, 8, 2, 3), (56, 0, 8, 8, 3), (237, 1, 95, 1, 8), (240, 1, 96, 3, 8), (281, 1, 62, 0, 7), (284, 1, 63, 0, 7)])
/-- NamesInBags.sit(II)I -/
def nm_m105 : px_M := (⟨"NamesInBags", "sit", "(II)I"⟩, prog_1_method_29_code, 3, (some .int), { frames := 7, cells := 0, slots := 0, locals := 170 }, [(0, 1, .aload_n 0), (1, 1, .iload_n 1), (2, 3, .invokevirtual 237), (5, 3, .ifCond .eq 14), (8, 1, .aload_n 0), (9, 3, .getfield 12), (12, 1, .iload_n 2), (13, 3, .invokevirtual 121), (16, 3, .ifCond .ne 5), (19, 1, .iconst (-1)), (20, 1, .ireturn), (21, 1, .aload_n 0), (22, 1, .aload_n 0), (23, 3, .getfield 26), (26, 1, .iconst 0), (27, 1, .iload_n 1), (28, 3, .invokevirtual 240), (31, 3, .ifCond .ne 6), (34, 2, .bipush (-3)), (36, 1, .ireturn), (37, 1, .aload_n 0), (38, 3, .getfield 56), (41, 1, .iload_n 2), (42, 3, .invokevirtual 287), (45, 1, .aload_n 0), (46, 3, .getfield 63), (49, 1, .aload_n 0), (50, 3, .getfield 56), (53, 3, .invokevirtual 291), (56, 3, .invokevirtual 248), (59, 1, .aload_n 0), (60, 3, .getfield 56), (63, 3, .getfield 274), (66, 3, .getfield 278), (69, 3, .ifCond .le 7), (72, 1, .iconst 1), (73, 3, .goto 4), (76, 1, .iconst 0), (77, 1, .ireturn)], [(12, 0, 8, 0, 3), (26, 0, 8, 2, 3), (56, 0, 8, 8, 3), (63, 0, 8, 9, 3), (121, 1, 47, 1, 6), (237, 1, 95, 1, 8), (240, 1, 96, 3, 8), (248, 1, 29, 1, 2), (274, 0, 7, 2, 0), (278, 0, 4, 3, 0), (287, 1, 54, 1, 7), (291, 1, 55, 0, 7)])
/-- NamesInBags.known()I -/
def nm_m106 : px_M := (⟨"NamesInBags", "known", "()I"⟩, prog_1_method_30_code, 3, (some .int), { frames := 6, cells := 0, slots := 0, locals := 145 }, [(0, 1, .aload_n 0), (1, 3, .invokevirtual 162), (4, 3, .ifCond .ne 5), (7, 1, .iconst (-1)), (8, 1, .ireturn), (9, 1, .aload_n 0), (10, 3, .getfield 49), (13, 1, .aload_n 0), (14, 3, .getfield 26), (17, 1, .aload_n 0), (18, 3, .getfield 12), (21, 3, .getfield 124), (24, 1, .iconst 0), (25, 1, .iaload), (26, 1, .aload_n 0), (27, 3, .getfield 12), (30, 3, .getfield 124), (33, 1, .iconst 1), (34, 1, .iaload), (35, 1, .iconst 0), (36, 3, .invokevirtual 295), (39, 1, .aload_n 0), (40, 3, .getfield 56), (43, 1, .aload_n 0), (44, 3, .getfield 37), (47, 3, .invokevirtual 299), (50, 1, .aload_n 0), (51, 3, .getfield 37), (54, 3, .getfield 216), (57, 1, .istore_n 1), (58, 1, .iload_n 1), (59, 1, .aload_n 0), (60, 3, .getfield 12), (63, 3, .getfield 135), (66, 3, .if_icmp .ge 50), (69, 1, .aload_n 0), (70, 3, .getfield 56), (73, 1, .aload_n 0), (74, 3, .getfield 49), (77, 1, .iload_n 1), (78, 3, .invokevirtual 302), (81, 3, .ifCond .ne 6), (84, 2, .bipush (-3)), (86, 1, .ireturn), (87, 1, .aload_n 0), (88, 3, .getfield 56), (91, 3, .invokevirtual 281), (94, 1, .istore_n 2), (95, 1, .iload_n 2), (96, 3, .ifCond .eq 14), (99, 1, .aload_n 0), (100, 3, .getfield 63), (103, 1, .iload_n 2), (104, 1, .i2l), (105, 3, .invokevirtual 248), (108, 1, .iload_n 1), (109, 1, .ireturn), (110, 3, .iinc 1 1), (113, 3, .goto (-55)), (116, 2, .bipush (-2)), (118, 1, .ireturn)], [(12, 0, 8, 0, 3), (26, 0, 8, 2, 3), (37, 0, 8, 5, 3), (49, 0, 8, 7, 3), (56, 0, 8, 8, 3), (63, 0, 8, 9, 3), (124, 0, 6, 6, 3), (135, 0, 6, 8, 0), (162, 1, 82, 0, 8), (216, 0, 0, 2, 0), (248, 1, 29, 1, 2), (281, 1, 62, 0, 7), (295, 1, 17, 4, 1), (299, 1, 49, 1, 7), (302, 1, 53, 2, 7)])
/-- NamesInBags.canPack(II)Z -/
def nm_m107 : px_M := (⟨"NamesInBags", "canPack", "(II)Z"⟩, prog_1_method_49_code, 3, (some .boolean), { frames := 1, cells := 0, slots := 0, locals := 21 }, [(0, 1, .iload_n 1), (1, 3, .invokestatic 118), (4, 3, .ifCond .eq 27), (7, 1, .aload_n 0), (8, 3, .getfield 12), (11, 1, .iload_n 2), (12, 3, .invokevirtual 121), (15, 3, .ifCond .eq 16), (18, 1, .iload_n 2), (19, 3, .invokestatic 322), (22, 2, .bipush 6), (24, 3, .if_icmp .gt 7), (27, 1, .iconst 1), (28, 3, .goto 4), (31, 1, .iconst 0), (32, 1, .ireturn)], [(12, 0, 8, 0, 3), (118, 2, 73, 1, 0), (121, 1, 47, 1, 6), (322, 2, 11, 1, 0)])
/-- NamesInBags.fullestWay(I)I -/
def nm_m108 : px_M := (⟨"NamesInBags", "fullestWay", "(I)I"⟩, prog_1_method_50_code, 1, (some .int), { frames := 1, cells := 0, slots := 0, locals := 20 }, [(0, 1, .iconst 1), (1, 1, .iload_n 0), (2, 3, .invokestatic 322), (5, 1, .ishl), (6, 1, .iconst 1), (7, 1, .isub), (8, 1, .ireturn)], [(322, 2, 11, 1, 0)])
/-- NamesInBags.packing(III)I -/
def nm_m109 : px_M := (⟨"NamesInBags", "packing", "(III)I"⟩, prog_1_method_51_code, 7, (some .int), { frames := 0, cells := 0, slots := 0, locals := 0 }, [(0, 1, .aload_n 0), (1, 3, .getfield 12), (4, 3, .getfield 124), (7, 1, .iload_n 1), (8, 1, .iaload), (9, 1, .iload_n 2), (10, 1, .iconst (-1)), (11, 1, .ixor), (12, 1, .iand), (13, 2, .istore 4), (15, 1, .iload_n 3), (16, 2, .istore 5), (18, 1, .iconst 0), (19, 2, .istore 6), (21, 2, .iload 6), (23, 2, .bipush 10), (25, 3, .if_icmp .ge 36), (28, 1, .iload_n 2), (29, 2, .iload 6), (31, 1, .ishr), (32, 1, .iconst 1), (33, 1, .iand), (34, 3, .ifCond .eq 21), (37, 2, .iload 4), (39, 2, .iload 5), (41, 1, .iconst 1), (42, 1, .iand), (43, 2, .iload 6), (45, 1, .ishl), (46, 1, .ior), (47, 2, .istore 4), (49, 2, .iload 5), (51, 1, .iconst 1), (52, 1, .ishr), (53, 2, .istore 5), (55, 3, .iinc 6 1), (58, 3, .goto (-37)), (61, 2, .iload 4), (63, 1, .ireturn)], [(12, 0, 8, 0, 3), (124, 0, 6, 6, 3)])
/-- NamesInBags.supposePacked(II)V -/
def nm_m110 : px_M := (⟨"NamesInBags", "supposePacked", "(II)V"⟩, prog_1_method_61_code, 5, none, { frames := 3, cells := 0, slots := 0, locals := 73 }, [(0, 1, .iload_n 1), (1, 3, .ifCond .ne 7), (4, 1, .iload_n 2), (5, 3, .goto 12), (8, 1, .aload_n 0), (9, 3, .getfield 12), (12, 3, .getfield 124), (15, 1, .iconst 0), (16, 1, .iaload), (17, 1, .istore_n 3), (18, 1, .iload_n 1), (19, 3, .ifCond .ne 15), (22, 1, .aload_n 0), (23, 3, .getfield 12), (26, 3, .getfield 124), (29, 1, .iconst 1), (30, 1, .iaload), (31, 3, .goto 4), (34, 1, .iload_n 2), (35, 2, .istore 4), (37, 1, .aload_n 0), (38, 3, .getfield 49), (41, 1, .aload_n 0), (42, 3, .getfield 26), (45, 1, .iload_n 3), (46, 2, .iload 4), (48, 1, .iconst 0), (49, 3, .invokevirtual 295), (52, 1, .aload_n 0), (53, 3, .getfield 41), (56, 1, .iload_n 3), (57, 2, .iload 4), (59, 3, .invokevirtual 231), (62, 1, .aload_n 0), (63, 3, .getfield 56), (66, 1, .aload_n 0), (67, 3, .getfield 41), (70, 3, .invokevirtual 299), (73, 1, .return_)], [(12, 0, 8, 0, 3), (26, 0, 8, 2, 3), (41, 0, 8, 6, 3), (49, 0, 8, 7, 3), (56, 0, 8, 8, 3), (124, 0, 6, 6, 3), (231, 1, 4, 2, 0), (295, 1, 17, 4, 1), (299, 1, 49, 1, 7)])
/-- NamesInBags.walkPacked(III)Z -/
def nm_m111 : px_M := (⟨"NamesInBags", "walkPacked", "(III)Z"⟩, prog_1_method_62_code, 6, (some .boolean), { frames := 6, cells := 0, slots := 0, locals := 145 }, [(0, 1, .aload_n 0), (1, 1, .iload_n 1), (2, 1, .iload_n 2), (3, 3, .invokevirtual 336), (6, 1, .iconst 1), (7, 2, .istore 4), (9, 1, .iconst 0), (10, 2, .istore 5), (12, 2, .iload 5), (14, 1, .iload_n 3), (15, 3, .if_icmp .gt 29), (18, 2, .iload 4), (20, 3, .ifCond .eq 24), (23, 1, .aload_n 0), (24, 3, .getfield 56), (27, 1, .aload_n 0), (28, 3, .getfield 49), (31, 2, .iload 5), (33, 3, .invokevirtual 302), (36, 2, .istore 4), (38, 3, .iinc 5 1), (41, 3, .goto (-29)), (44, 2, .iload 4), (46, 1, .ireturn)], [(49, 0, 8, 7, 3), (56, 0, 8, 8, 3), (302, 1, 53, 2, 7), (336, 1, 110, 2, 8)])
/-- NamesInBags.best(IIIII)I -/
def nm_m112 : px_M := (⟨"NamesInBags", "best", "(IIIII)I"⟩, prog_1_method_31_code, 15, (some .int), { frames := 7, cells := 0, slots := 0, locals := 170 }, [(0, 1, .aload_n 0), (1, 1, .iload_n 1), (2, 1, .iload_n 2), (3, 3, .invokevirtual 305), (6, 3, .ifCond .eq 26), (9, 1, .aload_n 0), (10, 3, .getfield 12), (13, 1, .iload_n 3), (14, 3, .invokevirtual 92), (17, 3, .ifCond .eq 15), (20, 1, .aload_n 0), (21, 3, .getfield 12), (24, 2, .iload 4), (26, 3, .invokevirtual 309), (29, 3, .ifCond .ne 5), (32, 1, .iconst (-1)), (33, 1, .ireturn), (34, 2, .iload 5), (36, 3, .ifCond .lt 9), (39, 2, .iload 5), (41, 1, .iconst 1), (42, 3, .if_icmp .le 5), (45, 1, .iconst (-1)), (46, 1, .ireturn), (47, 1, .iconst (-1)), (48, 2, .istore 6), (50, 1, .lconst 0), (51, 2, .lstore 7), (53, 1, .iload_n 2), (54, 3, .invokestatic 312), (57, 2, .istore 9), (59, 2, .iload 9), (61, 3, .ifCond .lt 133), (64, 1, .aload_n 0), (65, 1, .iload_n 1), (66, 1, .iload_n 2), (67, 2, .iload 9), (69, 3, .invokevirtual 315), (72, 2, .istore 10), (74, 1, .aload_n 0), (75, 1, .iload_n 1), (76, 2, .iload 10), (78, 2, .iload 4), (80, 3, .invokevirtual 318), (83, 3, .ifCond .ne 6), (86, 2, .bipush (-3)), (88, 1, .ireturn), (89, 1, .aload_n 0), (90, 3, .getfield 56), (93, 1, .iconst 1), (94, 1, .iload_n 3), (95, 1, .ishl), (96, 3, .invokevirtual 244), (99, 2, .lstore 11), (101, 2, .iload 5), (103, 3, .ifCond .ne 19), (106, 2, .lload 11), (108, 2, .lload 7), (110, 1, .lcmp), (111, 3, .ifCond .le 7), (114, 1, .iconst 1), (115, 3, .goto 20), (118, 1, .iconst 0), (119, 3, .goto 16), (122, 2, .lload 11), (124, 2, .lload 7), (126, 1, .lcmp), (127, 3, .ifCond .ge 7), (130, 1, .iconst 1), (131, 3, .goto 4), (134, 1, .iconst 0), (135, 2, .istore 13), (137, 2, .lload 11), (139, 2, .lload 7), (141, 1, .lcmp), (142, 3, .ifCond .ne 20), (145, 2, .iload 10), (147, 3, .invokestatic 322), (150, 2, .iload 6), (152, 3, .invokestatic 322), (155, 3, .if_icmp .gt 7), (158, 1, .iconst 1), (159, 3, .goto 4), (162, 1, .iconst 0), (163, 2, .istore 14), (165, 2, .iload 6), (167, 3, .ifCond .lt 13), (170, 2, .iload 13), (172, 3, .ifCond .ne 8), (175, 2, .iload 14), (177, 3, .ifCond .eq 11), (180, 2, .iload 10), (182, 2, .istore 6), (184, 2, .lload 11), (186, 2, .lstore 7), (188, 3, .iinc 9 (-1)), (191, 3, .goto (-132)), (194, 1, .aload_n 0), (195, 3, .getfield 63), (198, 2, .iload 6), (200, 1, .i2l), (201, 3, .invokevirtual 248), (204, 1, .aload_n 0), (205, 3, .getfield 63), (208, 2, .lload 7), (210, 3, .invokevirtual 206), (213, 1, .iconst 0), (214, 1, .ireturn)], [(12, 0, 8, 0, 3), (56, 0, 8, 8, 3), (63, 0, 8, 9, 3), (92, 1, 46, 1, 6), (206, 1, 28, 1, 2), (244, 1, 56, 1, 7), (248, 1, 29, 1, 2), (305, 1, 107, 2, 8), (309, 1, 18, 1, 6), (312, 2, 108, 1, 0), (315, 1, 109, 3, 8), (318, 1, 111, 3, 8), (322, 2, 11, 1, 0)])
/-- NamesInBags.never(IIII)I -/
def nm_m113 : px_M := (⟨"NamesInBags", "never", "(IIII)I"⟩, prog_1_method_32_code, 11, (some .int), { frames := 7, cells := 0, slots := 0, locals := 170 }, [(0, 1, .aload_n 0), (1, 1, .iload_n 1), (2, 1, .iload_n 2), (3, 3, .invokevirtual 305), (6, 3, .ifCond .eq 25), (9, 1, .iload_n 3), (10, 3, .ifCond .lt 21), (13, 1, .iload_n 3), (14, 2, .bipush 6), (16, 3, .if_icmp .ge 15), (19, 1, .aload_n 0), (20, 3, .getfield 12), (23, 2, .iload 4), (25, 3, .invokevirtual 309), (28, 3, .ifCond .ne 5), (31, 1, .iconst (-1)), (32, 1, .ireturn), (33, 1, .aload_n 0), (34, 3, .getfield 12), (37, 1, .iload_n 3), (38, 3, .invokevirtual 271), (41, 2, .istore 5), (43, 1, .aload_n 0), (44, 3, .getfield 12), (47, 3, .getfield 255), (50, 2, .iload 4), (52, 1, .iaload), (53, 2, .istore 6), (55, 1, .iconst 0), (56, 2, .istore 7), (58, 1, .iconst (-1)), (59, 2, .istore 8), (61, 1, .iload_n 2), (62, 3, .invokestatic 312), (65, 2, .istore 9), (67, 2, .iload 9), (69, 3, .ifCond .lt 84), (72, 1, .aload_n 0), (73, 1, .iload_n 1), (74, 1, .iload_n 2), (75, 2, .iload 9), (77, 3, .invokevirtual 315), (80, 2, .istore 10), (82, 1, .aload_n 0), (83, 1, .iload_n 1), (84, 2, .iload 10), (86, 2, .iload 4), (88, 3, .invokevirtual 318), (91, 3, .ifCond .ne 6), (94, 2, .bipush (-3)), (96, 1, .ireturn), (97, 1, .aload_n 0), (98, 3, .getfield 56), (101, 3, .invokevirtual 284), (104, 2, .iload 5), (106, 1, .iand), (107, 3, .ifCond .ne 40), (110, 1, .aload_n 0), (111, 3, .getfield 56), (114, 2, .iload 6), (116, 3, .invokevirtual 327), (119, 3, .ifCond .eq 28), (122, 3, .iinc 7 1), (125, 2, .iload 8), (127, 3, .ifCond .lt 16), (130, 2, .iload 10), (132, 3, .invokestatic 322), (135, 2, .iload 8), (137, 3, .invokestatic 322), (140, 3, .if_icmp .lt 7), (143, 2, .iload 10), (145, 2, .istore 8), (147, 3, .iinc 9 (-1)), (150, 3, .goto (-83)), (153, 1, .aload_n 0), (154, 3, .getfield 63), (157, 3, .invokevirtual 182), (160, 2, .iload 7), (162, 3, .ifCond .le 13), (165, 1, .aload_n 0), (166, 3, .getfield 63), (169, 2, .iload 8), (171, 1, .i2l), (172, 3, .invokevirtual 206), (175, 2, .iload 7), (177, 1, .ireturn)], [(12, 0, 8, 0, 3), (56, 0, 8, 8, 3), (63, 0, 8, 9, 3), (182, 1, 27, 0, 2), (206, 1, 28, 1, 2), (255, 0, 6, 11, 3), (271, 1, 22, 1, 6), (284, 1, 63, 0, 7), (305, 1, 107, 2, 8), (309, 1, 18, 1, 6), (312, 2, 108, 1, 0), (315, 1, 109, 3, 8), (318, 1, 111, 3, 8), (322, 2, 11, 1, 0), (327, 1, 61, 1, 7)])
/-- NamesInBags.even(IIII)I -/
def nm_m114 : px_M := (⟨"NamesInBags", "even", "(IIII)I"⟩, prog_1_method_33_code, 13, (some .int), { frames := 7, cells := 0, slots := 0, locals := 170 }, [(0, 1, .aload_n 0), (1, 1, .iload_n 1), (2, 1, .iload_n 2), (3, 3, .invokevirtual 305), (6, 3, .ifCond .eq 30), (9, 1, .aload_n 0), (10, 3, .getfield 12), (13, 1, .iload_n 3), (14, 3, .invokevirtual 121), (17, 3, .ifCond .eq 19), (20, 1, .iload_n 3), (21, 3, .ifCond .eq 15), (24, 1, .aload_n 0), (25, 3, .getfield 12), (28, 2, .iload 4), (30, 3, .invokevirtual 309), (33, 3, .ifCond .ne 5), (36, 1, .iconst (-1)), (37, 1, .ireturn), (38, 1, .iconst (-1)), (39, 2, .istore 5), (41, 1, .lconst 0), (42, 2, .lstore 6), (44, 1, .iload_n 2), (45, 3, .invokestatic 312), (48, 2, .istore 8), (50, 2, .iload 8), (52, 3, .ifCond .lt 98), (55, 1, .aload_n 0), (56, 1, .iload_n 1), (57, 1, .iload_n 2), (58, 2, .iload 8), (60, 3, .invokevirtual 315), (63, 2, .istore 9), (65, 1, .aload_n 0), (66, 1, .iload_n 1), (67, 2, .iload 9), (69, 2, .iload 4), (71, 3, .invokevirtual 318), (74, 3, .ifCond .ne 6), (77, 2, .bipush (-3)), (79, 1, .ireturn), (80, 1, .aload_n 0), (81, 3, .getfield 56), (84, 1, .iload_n 3), (85, 3, .invokevirtual 330), (88, 2, .lstore 10), (90, 2, .lload 10), (92, 2, .lload 6), (94, 1, .lcmp), (95, 3, .ifCond .ne 20), (98, 2, .iload 9), (100, 3, .invokestatic 322), (103, 2, .iload 5), (105, 3, .invokestatic 322), (108, 3, .if_icmp .lt 7), (111, 1, .iconst 1), (112, 3, .goto 4), (115, 1, .iconst 0), (116, 2, .istore 12), (118, 2, .iload 5), (120, 3, .ifCond .lt 16), (123, 2, .lload 10), (125, 2, .lload 6), (127, 1, .lcmp), (128, 3, .ifCond .lt 8), (131, 2, .iload 12), (133, 3, .ifCond .eq 11), (136, 2, .iload 9), (138, 2, .istore 5), (140, 2, .lload 10), (142, 2, .lstore 6), (144, 3, .iinc 8 (-1)), (147, 3, .goto (-97)), (150, 1, .aload_n 0), (151, 3, .getfield 63), (154, 2, .iload 5), (156, 1, .i2l), (157, 3, .invokevirtual 248), (160, 1, .aload_n 0), (161, 3, .getfield 63), (164, 2, .lload 6), (166, 3, .invokevirtual 206), (169, 1, .iconst 0), (170, 1, .ireturn)], [(12, 0, 8, 0, 3), (56, 0, 8, 8, 3), (63, 0, 8, 9, 3), (121, 1, 47, 1, 6), (206, 1, 28, 1, 2), (248, 1, 29, 1, 2), (305, 1, 107, 2, 8), (309, 1, 18, 1, 6), (312, 2, 108, 1, 0), (315, 1, 109, 3, 8), (318, 1, 111, 3, 8), (322, 2, 11, 1, 0), (330, 1, 64, 1, 7)])
/-- NamesInBags.fair(II)I -/
def nm_m115 : px_M := (⟨"NamesInBags", "fair", "(II)I"⟩, prog_1_method_34_code, 9, (some .int), { frames := 7, cells := 0, slots := 0, locals := 170 }, [(0, 1, .aload_n 0), (1, 3, .getfield 12), (4, 1, .iload_n 1), (5, 3, .invokevirtual 121), (8, 3, .ifCond .eq 15), (11, 1, .iload_n 1), (12, 3, .ifCond .eq 11), (15, 1, .aload_n 0), (16, 1, .iload_n 2), (17, 3, .invokevirtual 237), (20, 3, .ifCond .ne 5), (23, 1, .iconst (-1)), (24, 1, .ireturn), (25, 1, .aload_n 0), (26, 1, .aload_n 0), (27, 3, .getfield 26), (30, 1, .iconst 0), (31, 1, .iload_n 2), (32, 3, .invokevirtual 240), (35, 3, .ifCond .ne 6), (38, 2, .bipush (-3)), (40, 1, .ireturn), (41, 1, .aload_n 0), (42, 3, .getfield 159), (45, 3, .ifCond .ne 6), (48, 2, .bipush (-4)), (50, 1, .ireturn), (51, 1, .iconst 3), (52, 1, .istore_n 3), (53, 1, .aload_n 0), (54, 3, .getfield 56), (57, 1, .iload_n 1), (58, 3, .invokevirtual 330), (61, 2, .lstore 4), (63, 1, .iconst 0), (64, 2, .istore 6), (66, 2, .iload 6), (68, 1, .iconst 3), (69, 3, .if_icmp .ge 68), (72, 1, .aload_n 0), (73, 3, .getfield 159), (76, 2, .iload 6), (78, 1, .ishr), (79, 1, .iconst 1), (80, 1, .iand), (81, 3, .ifCond .ne 6), (84, 3, .goto 47), (87, 1, .aload_n 0), (88, 1, .aload_n 0), (89, 3, .getfield 30), (92, 2, .iload 6), (94, 1, .aaload), (95, 1, .iconst 0), (96, 1, .iload_n 2), (97, 3, .invokevirtual 240), (100, 3, .ifCond .ne 6), (103, 2, .bipush (-3)), (105, 1, .ireturn), (106, 1, .aload_n 0), (107, 3, .getfield 56), (110, 1, .iload_n 1), (111, 3, .invokevirtual 330), (114, 2, .lstore 7), (116, 2, .lload 7), (118, 2, .lload 4), (120, 1, .lcmp), (121, 3, .ifCond .ge 10), (124, 2, .lload 7), (126, 2, .lstore 4), (128, 2, .iload 6), (130, 1, .istore_n 3), (131, 3, .iinc 6 1), (134, 3, .goto (-68)), (137, 1, .aload_n 0), (138, 3, .getfield 63), (141, 2, .lload 4), (143, 3, .invokevirtual 248), (146, 1, .iload_n 3), (147, 1, .ireturn)], [(12, 0, 8, 0, 3), (26, 0, 8, 2, 3), (30, 0, 8, 3, 3), (56, 0, 8, 8, 3), (63, 0, 8, 9, 3), (121, 1, 47, 1, 6), (159, 0, 8, 4, 0), (237, 1, 95, 1, 8), (240, 1, 96, 3, 8), (248, 1, 29, 1, 2), (330, 1, 64, 1, 7)])
/-- NamesInBags.war(II)I -/
def nm_m116 : px_M := (⟨"NamesInBags", "war", "(II)I"⟩, prog_1_method_35_code, 6, (some .int), { frames := 7, cells := 0, slots := 0, locals := 170 }, [(0, 1, .aload_n 0), (1, 3, .getfield 12), (4, 1, .iload_n 1), (5, 3, .invokevirtual 121), (8, 3, .ifCond .eq 11), (11, 1, .aload_n 0), (12, 1, .iload_n 2), (13, 3, .invokevirtual 237), (16, 3, .ifCond .ne 5), (19, 1, .iconst (-1)), (20, 1, .ireturn), (21, 1, .aload_n 0), (22, 3, .getfield 12), (25, 3, .getfield 255), (28, 1, .iload_n 2), (29, 1, .iaload), (30, 1, .istore_n 3), (31, 1, .aload_n 0), (32, 1, .aload_n 0), (33, 3, .getfield 26), (36, 1, .iload_n 1), (37, 1, .iload_n 2), (38, 3, .invokevirtual 240), (41, 3, .ifCond .ne 6), (44, 2, .bipush (-3)), (46, 1, .ireturn), (47, 1, .aload_n 0), (48, 3, .getfield 56), (51, 1, .iload_n 3), (52, 3, .invokevirtual 258), (55, 2, .lstore 4), (57, 1, .aload_n 0), (58, 1, .aload_n 0), (59, 3, .getfield 26), (62, 1, .iconst 0), (63, 1, .iload_n 2), (64, 3, .invokevirtual 240), (67, 3, .ifCond .ne 6), (70, 2, .bipush (-3)), (72, 1, .ireturn), (73, 1, .aload_n 0), (74, 3, .getfield 63), (77, 2, .lload 4), (79, 3, .invokevirtual 248), (82, 1, .aload_n 0), (83, 3, .getfield 63), (86, 1, .aload_n 0), (87, 3, .getfield 56), (90, 1, .iload_n 3), (91, 3, .invokevirtual 258), (94, 3, .invokevirtual 206), (97, 1, .iconst 0), (98, 1, .ireturn)], [(12, 0, 8, 0, 3), (26, 0, 8, 2, 3), (56, 0, 8, 8, 3), (63, 0, 8, 9, 3), (121, 1, 47, 1, 6), (206, 1, 28, 1, 2), (237, 1, 95, 1, 8), (240, 1, 96, 3, 8), (248, 1, 29, 1, 2), (255, 0, 6, 11, 3), (258, 1, 60, 1, 7)])
/-- NamesInBags.list(I)I -/
def nm_m117 : px_M := (⟨"NamesInBags", "list", "(I)I"⟩, prog_1_method_36_code, 2, (some .int), { frames := 1, cells := 0, slots := 0, locals := 21 }, [(0, 1, .aload_n 0), (1, 3, .getfield 12), (4, 1, .iload_n 1), (5, 3, .invokevirtual 121), (8, 3, .ifCond .eq 12), (11, 1, .aload_n 0), (12, 3, .getfield 333), (15, 2, .bipush 6), (17, 3, .if_icmp .lt 5), (20, 1, .iconst (-1)), (21, 1, .ireturn), (22, 1, .aload_n 0), (23, 3, .getfield 82), (26, 1, .aload_n 0), (27, 3, .getfield 333), (30, 1, .iload_n 1), (31, 1, .iastore), (32, 1, .aload_n 0), (33, 1, .dup), (34, 3, .getfield 333), (37, 1, .iconst 1), (38, 1, .iadd), (39, 3, .putfield 333), (42, 1, .aload_n 0), (43, 3, .getfield 333), (46, 1, .ireturn)], [(12, 0, 8, 0, 3), (82, 0, 8, 15, 3), (121, 1, 47, 1, 6), (333, 0, 8, 16, 0)])
/-- NamesInBags.wipe()I -/
def nm_m118 : px_M := (⟨"NamesInBags", "wipe", "()I"⟩, prog_1_method_37_code, 2, (some .int), { frames := 0, cells := 0, slots := 0, locals := 0 }, [(0, 1, .aload_n 0), (1, 3, .getfield 333), (4, 1, .istore_n 1), (5, 1, .aload_n 0), (6, 1, .iconst 0), (7, 3, .putfield 333), (10, 1, .iload_n 1), (11, 1, .ireturn)], [(333, 0, 8, 16, 0)])
/-- NamesInBags.walkAsListed()Z -/
def nm_m119 : px_M := (⟨"NamesInBags", "walkAsListed", "()Z"⟩, prog_1_method_63_code, 2, (some .boolean), { frames := 6, cells := 0, slots := 0, locals := 145 }, [(0, 1, .iconst 0), (1, 1, .istore_n 1), (2, 1, .iload_n 1), (3, 1, .aload_n 0), (4, 3, .getfield 333), (7, 3, .if_icmp .ge 45), (10, 1, .iload_n 1), (11, 2, .bipush 6), (13, 3, .if_icmp .ge 39), (16, 1, .aload_n 0), (17, 3, .getfield 56), (20, 1, .aload_n 0), (21, 3, .getfield 49), (24, 1, .iload_n 1), (25, 3, .invokevirtual 302), (28, 3, .ifCond .ne 5), (31, 1, .iconst 0), (32, 1, .ireturn), (33, 1, .aload_n 0), (34, 3, .getfield 56), (37, 1, .aload_n 0), (38, 3, .getfield 82), (41, 1, .iload_n 1), (42, 1, .iaload), (43, 3, .invokevirtual 287), (46, 3, .iinc 1 1), (49, 3, .goto (-47)), (52, 1, .iconst 1), (53, 1, .ireturn)], [(49, 0, 8, 7, 3), (56, 0, 8, 8, 3), (82, 0, 8, 15, 3), (287, 1, 54, 1, 7), (302, 1, 53, 2, 7), (333, 0, 8, 16, 0)])
/-- NamesInBags.old(II)I -/
def nm_m120 : px_M := (⟨"NamesInBags", "old", "(II)I"⟩, prog_1_method_38_code, 8, (some .int), { frames := 7, cells := 0, slots := 0, locals := 166 }, [(0, 1, .aload_n 0), (1, 1, .iload_n 1), (2, 1, .iload_n 2), (3, 3, .invokevirtual 305), (6, 3, .ifCond .eq 17), (9, 1, .aload_n 0), (10, 3, .getfield 333), (13, 1, .aload_n 0), (14, 3, .getfield 12), (17, 3, .getfield 135), (20, 3, .if_icmp .le 5), (23, 1, .iconst (-1)), (24, 1, .ireturn), (25, 1, .iconst 0), (26, 1, .istore_n 3), (27, 3, .sipush 1023), (30, 2, .istore 4), (32, 1, .iconst 0), (33, 2, .istore 5), (35, 1, .iload_n 2), (36, 3, .invokestatic 312), (39, 2, .istore 6), (41, 2, .iload 6), (43, 3, .ifCond .lt 66), (46, 1, .aload_n 0), (47, 1, .iload_n 1), (48, 1, .iload_n 2), (49, 2, .iload 6), (51, 3, .invokevirtual 315), (54, 2, .istore 7), (56, 1, .aload_n 0), (57, 1, .iload_n 1), (58, 2, .iload 7), (60, 3, .invokevirtual 336), (63, 1, .aload_n 0), (64, 3, .invokevirtual 339), (67, 3, .ifCond .ne 6), (70, 2, .bipush (-3)), (72, 1, .ireturn), (73, 1, .aload_n 0), (74, 3, .getfield 56), (77, 3, .getfield 274), (80, 3, .getfield 278), (83, 3, .ifCond .le 20), (86, 3, .iinc 3 1), (89, 2, .iload 4), (91, 2, .iload 7), (93, 1, .iand), (94, 2, .istore 4), (96, 2, .iload 5), (98, 2, .iload 7), (100, 1, .ior), (101, 2, .istore 5), (103, 3, .iinc 6 (-1)), (106, 3, .goto (-65)), (109, 1, .aload_n 0), (110, 3, .getfield 63), (113, 1, .iload_n 3), (114, 3, .ifCond .le 9), (117, 2, .iload 4), (119, 1, .i2l), (120, 3, .goto 4), (123, 1, .lconst 0), (124, 3, .invokevirtual 248), (127, 1, .aload_n 0), (128, 3, .getfield 63), (131, 2, .iload 5), (133, 1, .i2l), (134, 3, .invokevirtual 206), (137, 1, .iload_n 3), (138, 1, .ireturn)], [(12, 0, 8, 0, 3), (56, 0, 8, 8, 3), (63, 0, 8, 9, 3), (135, 0, 6, 8, 0), (206, 1, 28, 1, 2), (248, 1, 29, 1, 2), (274, 0, 7, 2, 0), (278, 0, 4, 3, 0), (305, 1, 107, 2, 8), (312, 2, 108, 1, 0), (315, 1, 109, 3, 8), (333, 0, 8, 16, 0), (336, 1, 110, 2, 8), (339, 1, 119, 0, 8)])
/-- NamesInBags.seldom()I -/
def nm_m121 : px_M := (⟨"NamesInBags", "seldom", "()I"⟩, prog_1_method_39_code, 1, (some .int), { frames := 7, cells := 0, slots := 0, locals := 166 }, [(0, 1, .aload_n 0), (1, 3, .getfield 333), (4, 1, .aload_n 0), (5, 3, .getfield 12), (8, 3, .getfield 135), (11, 3, .if_icmp .le 5), (14, 1, .iconst (-1)), (15, 1, .ireturn), (16, 1, .aload_n 0), (17, 1, .iconst 0), (18, 1, .aload_n 0), (19, 3, .getfield 12), (22, 3, .getfield 124), (25, 1, .iconst 0), (26, 1, .iaload), (27, 3, .invokevirtual 336), (30, 1, .aload_n 0), (31, 3, .invokevirtual 339), (34, 3, .ifCond .ne 6), (37, 2, .bipush (-3)), (39, 1, .ireturn), (40, 1, .aload_n 0), (41, 3, .getfield 63), (44, 1, .aload_n 0), (45, 3, .getfield 56), (48, 3, .invokevirtual 291), (51, 3, .invokevirtual 248), (54, 1, .iconst 0), (55, 1, .ireturn)], [(12, 0, 8, 0, 3), (56, 0, 8, 8, 3), (63, 0, 8, 9, 3), (124, 0, 6, 6, 3), (135, 0, 6, 8, 0), (248, 1, 29, 1, 2), (291, 1, 55, 0, 7), (333, 0, 8, 16, 0), (336, 1, 110, 2, 8), (339, 1, 119, 0, 8)])
/-- NamesInBags.seed(I)I -/
def nm_m122 : px_M := (⟨"NamesInBags", "seed", "(I)I"⟩, prog_1_method_40_code, 3, (some .int), { frames := 0, cells := 0, slots := 0, locals := 0 }, [(0, 1, .aload_n 0), (1, 3, .getfield 71), (4, 1, .istore_n 2), (5, 1, .aload_n 0), (6, 1, .iload_n 1), (7, 3, .putfield 71), (10, 1, .iload_n 2), (11, 1, .ireturn)], [(71, 0, 8, 11, 0)])
/-- NamesInBags.keep(I)Z -/
def nm_m123 : px_M := (⟨"NamesInBags", "keep", "(I)Z"⟩, prog_1_method_41_code, 2, (some .boolean), { frames := 1, cells := 0, slots := 0, locals := 21 }, [(0, 1, .iload_n 1), (1, 3, .ifCond .lt 8), (4, 1, .iload_n 1), (5, 1, .iconst 3), (6, 3, .if_icmp .lt 5), (9, 1, .iconst 0), (10, 1, .ireturn), (11, 1, .aload_n 0), (12, 3, .getfield 75), (15, 1, .iload_n 1), (16, 1, .aaload), (17, 1, .aload_n 0), (18, 3, .getfield 37), (21, 3, .invokevirtual 227), (24, 1, .aload_n 0), (25, 3, .getfield 79), (28, 1, .iload_n 1), (29, 1, .aload_n 0), (30, 3, .getfield 71), (33, 1, .iastore), (34, 1, .aload_n 0), (35, 1, .dup), (36, 3, .getfield 342), (39, 1, .iconst 1), (40, 1, .iload_n 1), (41, 1, .ishl), (42, 1, .ior), (43, 3, .putfield 342), (46, 1, .iconst 1), (47, 1, .ireturn)], [(37, 0, 8, 5, 3), (71, 0, 8, 11, 0), (75, 0, 8, 12, 3), (79, 0, 8, 13, 3), (227, 1, 1, 1, 0), (342, 0, 8, 14, 0)])
/-- NamesInBags.again(I)Z -/
def nm_m124 : px_M := (⟨"NamesInBags", "again", "(I)Z"⟩, prog_1_method_42_code, 2, (some .boolean), { frames := 1, cells := 0, slots := 0, locals := 21 }, [(0, 1, .iload_n 1), (1, 3, .ifCond .lt 19), (4, 1, .iload_n 1), (5, 1, .iconst 3), (6, 3, .if_icmp .ge 14), (9, 1, .aload_n 0), (10, 3, .getfield 342), (13, 1, .iload_n 1), (14, 1, .ishr), (15, 1, .iconst 1), (16, 1, .iand), (17, 3, .ifCond .ne 5), (20, 1, .iconst 0), (21, 1, .ireturn), (22, 1, .aload_n 0), (23, 3, .getfield 37), (26, 1, .aload_n 0), (27, 3, .getfield 75), (30, 1, .iload_n 1), (31, 1, .aaload), (32, 3, .invokevirtual 227), (35, 1, .aload_n 0), (36, 1, .aload_n 0), (37, 3, .getfield 79), (40, 1, .iload_n 1), (41, 1, .iaload), (42, 3, .putfield 71), (45, 1, .iconst 1), (46, 1, .ireturn)], [(37, 0, 8, 5, 3), (71, 0, 8, 11, 0), (75, 0, 8, 12, 3), (79, 0, 8, 13, 3), (227, 1, 1, 1, 0), (342, 0, 8, 14, 0)])
/-- NamesInBags.count(I)I -/
def nm_m125 : px_M := (⟨"NamesInBags", "count", "(I)I"⟩, prog_1_method_43_code, 2, (some .int), { frames := 0, cells := 0, slots := 0, locals := 0 }, [(0, 1, .iload_n 1), (1, 55, .tableswitch 133 0 9 #[55, 63, 71, 79, 87, 95, 103, 108, 118, 128]), (56, 1, .aload_n 0), (57, 3, .getfield 12), (60, 3, .getfield 85), (63, 1, .ireturn), (64, 1, .aload_n 0), (65, 3, .getfield 12), (68, 3, .getfield 135), (71, 1, .ireturn), (72, 1, .aload_n 0), (73, 3, .getfield 37), (76, 3, .getfield 216), (79, 1, .ireturn), (80, 1, .aload_n 0), (81, 3, .getfield 26), (84, 3, .getfield 345), (87, 1, .ireturn), (88, 1, .aload_n 0), (89, 3, .getfield 19), (92, 3, .getfield 149), (95, 1, .ireturn), (96, 1, .aload_n 0), (97, 3, .getfield 63), (100, 3, .getfield 210), (103, 1, .ireturn), (104, 1, .aload_n 0), (105, 3, .getfield 333), (108, 1, .ireturn), (109, 1, .aload_n 0), (110, 3, .getfield 12), (113, 3, .getfield 124), (116, 1, .iconst 0), (117, 1, .iaload), (118, 1, .ireturn), (119, 1, .aload_n 0), (120, 3, .getfield 12), (123, 3, .getfield 124), (126, 1, .iconst 1), (127, 1, .iaload), (128, 1, .ireturn), (129, 1, .aload_n 0), (130, 3, .getfield 159), (133, 1, .ireturn), (134, 1, .iconst (-1)), (135, 1, .ireturn)], [(12, 0, 8, 0, 3), (19, 0, 8, 1, 3), (26, 0, 8, 2, 3), (37, 0, 8, 5, 3), (63, 0, 8, 9, 3), (85, 0, 6, 0, 0), (124, 0, 6, 6, 3), (135, 0, 6, 8, 0), (149, 0, 5, 1, 0), (159, 0, 8, 4, 0), (210, 0, 2, 1, 0), (216, 0, 0, 2, 0), (333, 0, 8, 16, 0), (345, 0, 3, 3, 0)])
/-- NamesInBags.row(I)J -/
def nm_m126 : px_M := (⟨"NamesInBags", "row", "(I)J"⟩, prog_1_method_44_code, 2, (some .long), { frames := 6, cells := 0, slots := 0, locals := 81 }, [(0, 1, .iload_n 1), (1, 3, .ifCond .lt 14), (4, 1, .iload_n 1), (5, 1, .aload_n 0), (6, 3, .getfield 63), (9, 3, .getfield 210), (12, 3, .if_icmp .lt 11), (23, 1, .aload_n 0), (24, 3, .getfield 63), (27, 3, .getfield 351), (30, 1, .iload_n 1), (31, 1, .laload), (32, 1, .lreturn)], [(63, 0, 8, 9, 3), (210, 0, 2, 1, 0), (351, 0, 2, 0, 3)])
/-- NamesInBagsModel.thrown()I -/
def nm_m127 : px_M := (⟨"NamesInBagsModel", "thrown", "()I"⟩, prog_11_method_1_code, 1, (some .int), { frames := 0, cells := 0, slots := 0, locals := 0 }, [(0, 1, .aload_n 0), (1, 3, .getfield 3), (4, 1, .ireturn)], [(3, 0, 9, 0, 0)])
/-- NamesInBagsModel.in(JJJ)Z -/
def nm_m128 : px_M := (⟨"NamesInBagsModel", "in", "(JJJ)Z"⟩, prog_11_method_2_code, 6, (some .boolean), { frames := 0, cells := 0, slots := 0, locals := 0 }, [(0, 1, .lload_n 0), (1, 1, .lload_n 2), (2, 1, .lcmp), (3, 3, .ifCond .lt 14), (6, 1, .lload_n 0), (7, 2, .lload 4), (9, 1, .lcmp), (10, 3, .ifCond .gt 7), (13, 1, .iconst 1), (14, 3, .goto 4), (17, 1, .iconst 0), (18, 1, .ireturn)], [])
/-- NamesInBagsModel.has(II)Z -/
def nm_m129 : px_M := (⟨"NamesInBagsModel", "has", "(II)Z"⟩, prog_11_method_3_code, 2, (some .boolean), { frames := 0, cells := 0, slots := 0, locals := 0 }, [(0, 1, .iload_n 0), (1, 1, .iload_n 1), (2, 1, .ishr), (3, 1, .iconst 1), (4, 1, .iand), (5, 1, .iconst 1), (6, 3, .if_icmp .ne 7), (9, 1, .iconst 1), (10, 3, .goto 4), (13, 1, .iconst 0), (14, 1, .ireturn)], [])
/-- NamesInBagsModel.flag(Z)I -/
def nm_m130 : px_M := (⟨"NamesInBagsModel", "flag", "(Z)I"⟩, prog_11_method_4_code, 1, (some .int), { frames := 0, cells := 0, slots := 0, locals := 0 }, [(0, 1, .iload_n 0), (1, 3, .ifCond .eq 7), (4, 1, .iconst 1), (5, 3, .goto 4), (8, 1, .iconst 0), (9, 1, .ireturn)], [])
/-- NamesInBagsModel.enters(J)V -/
def nm_m131 : px_M := (⟨"NamesInBagsModel", "enters", "(J)V"⟩, prog_11_method_5_code, 3, none, { frames := 0, cells := 0, slots := 0, locals := 0 }, [(0, 1, .aload_n 0), (1, 3, .getfield 7), (4, 1, .aload_n 0), (5, 3, .getfield 11), (8, 1, .lload_n 1), (9, 1, .lastore), (10, 1, .aload_n 0), (11, 1, .dup), (12, 3, .getfield 11), (15, 1, .iconst 1), (16, 1, .iadd), (17, 3, .putfield 11), (20, 1, .return_)], [(7, 0, 9, 2, 3), (11, 0, 9, 1, 0)])
/-- NamesInBagsModel.isPerson(I)Z -/
def nm_m132 : px_M := (⟨"NamesInBagsModel", "isPerson", "(I)Z"⟩, prog_11_method_6_code, 2, (some .boolean), { frames := 1, cells := 0, slots := 0, locals := 25 }, [(0, 1, .iload_n 1), (1, 1, .i2l), (2, 1, .lconst 0), (3, 1, .aload_n 0), (4, 3, .getfield 14), (7, 1, .iconst 1), (8, 1, .isub), (9, 1, .i2l), (10, 3, .invokestatic 17), (13, 1, .ireturn)], [(14, 0, 9, 3, 0), (17, 2, 128, 3, 0)])
/-- NamesInBagsModel.isSet(I)Z -/
def nm_m133 : px_M := (⟨"NamesInBagsModel", "isSet", "(I)Z"⟩, prog_11_method_7_code, 2, (some .boolean), { frames := 1, cells := 0, slots := 0, locals := 25 }, [(0, 1, .iload_n 1), (1, 1, .i2l), (2, 1, .lconst 0), (3, 1, .iconst 1), (4, 1, .aload_n 0), (5, 3, .getfield 14), (8, 1, .ishl), (9, 1, .iconst 1), (10, 1, .isub), (11, 1, .i2l), (12, 3, .invokestatic 17), (15, 1, .ireturn)], [(14, 0, 9, 3, 0), (17, 2, 128, 3, 0)])
/-- NamesInBagsModel.person(I)I -/
def nm_m134 : px_M := (⟨"NamesInBagsModel", "person", "(I)I"⟩, prog_11_method_8_code, 2, (some .int), { frames := 1, cells := 0, slots := 0, locals := 25 }, [(0, 1, .aload_n 0), (1, 1, .iconst 0), (2, 3, .putfield 3), (5, 1, .iload_n 1), (6, 1, .i2l), (7, 1, .lconst 0), (8, 3, .ldc2_w 21), (11, 3, .invokestatic 17), (14, 3, .ifCond .eq 12), (17, 1, .aload_n 0), (18, 3, .getfield 14), (21, 2, .bipush 10), (23, 3, .if_icmp .ne 5), (26, 1, .iconst (-1)), (27, 1, .ireturn), (28, 1, .aload_n 0), (29, 3, .getfield 23), (32, 1, .aload_n 0), (33, 3, .getfield 14), (36, 1, .iload_n 1), (37, 1, .iastore), (38, 1, .aload_n 0), (39, 3, .getfield 27), (42, 1, .aload_n 0), (43, 3, .getfield 14), (46, 1, .iconst 0), (47, 1, .iastore), (48, 1, .aload_n 0), (49, 3, .getfield 30), (52, 1, .aload_n 0), (53, 3, .getfield 14), (56, 1, .iconst 0), (57, 1, .iastore), (58, 1, .aload_n 0), (59, 3, .getfield 33), (62, 1, .aload_n 0), (63, 3, .getfield 14), (66, 1, .iconst (-1)), (67, 1, .iastore), (68, 1, .aload_n 0), (69, 3, .getfield 36), (72, 1, .aload_n 0), (73, 3, .getfield 14), (76, 3, .sipush 1000), (79, 1, .iastore), (80, 1, .aload_n 0), (81, 1, .dup), (82, 3, .getfield 14), (85, 1, .iconst 1), (86, 1, .iadd), (87, 3, .putfield 14), (90, 1, .aload_n 0), (91, 3, .getfield 14), (94, 1, .iconst 1), (95, 1, .isub), (96, 1, .ireturn)], [(3, 0, 9, 0, 0), (14, 0, 9, 3, 0), (17, 2, 128, 3, 0), (21, 4, 0, 0, 5), (23, 0, 9, 4, 3), (27, 0, 9, 5, 3), (30, 0, 9, 6, 3), (33, 0, 9, 7, 3), (36, 0, 9, 8, 3)])
/-- NamesInBagsModel.debt(II)I -/
def nm_m135 : px_M := (⟨"NamesInBagsModel", "debt", "(II)I"⟩, prog_11_method_9_code, 4, (some .int), { frames := 2, cells := 0, slots := 0, locals := 46 }, [(0, 1, .aload_n 0), (1, 1, .iconst 0), (2, 3, .putfield 3), (5, 1, .aload_n 0), (6, 1, .iload_n 1), (7, 3, .invokevirtual 39), (10, 3, .ifCond .eq 15), (13, 1, .iload_n 2), (14, 1, .i2l), (15, 1, .lconst 0), (16, 3, .ldc2_w 43), (19, 3, .invokestatic 17), (22, 3, .ifCond .ne 5), (25, 1, .iconst (-1)), (26, 1, .ireturn), (27, 1, .aload_n 0), (28, 3, .getfield 27), (31, 1, .iload_n 1), (32, 1, .iaload), (33, 1, .istore_n 3), (34, 1, .aload_n 0), (35, 3, .getfield 27), (38, 1, .iload_n 1), (39, 1, .iload_n 2), (40, 1, .iastore), (41, 1, .iload_n 3), (42, 1, .ireturn)], [(3, 0, 9, 0, 0), (17, 2, 128, 3, 0), (27, 0, 9, 5, 3), (39, 1, 132, 1, 9), (43, 4, 0, 0, 999)])
/-- NamesInBagsModel.away(III)Z -/
def nm_m136 : px_M := (⟨"NamesInBagsModel", "away", "(III)Z"⟩, prog_11_method_10_code, 4, (some .boolean), { frames := 2, cells := 0, slots := 0, locals := 46 }, [(0, 1, .aload_n 0), (1, 1, .iconst 0), (2, 3, .putfield 3), (5, 1, .aload_n 0), (6, 1, .iload_n 1), (7, 3, .invokevirtual 39), (10, 3, .ifCond .eq 27), (13, 1, .iload_n 2), (14, 1, .i2l), (15, 1, .lconst 0), (16, 3, .ldc2_w 43), (19, 3, .invokestatic 17), (22, 3, .ifCond .eq 15), (25, 1, .iload_n 3), (26, 1, .i2l), (27, 1, .lconst 0), (28, 3, .ldc2_w 43), (31, 3, .invokestatic 17), (34, 3, .ifCond .ne 5), (37, 1, .iconst 0), (38, 1, .ireturn), (39, 1, .aload_n 0), (40, 3, .getfield 30), (43, 1, .iload_n 1), (44, 1, .iload_n 2), (45, 1, .iastore), (46, 1, .aload_n 0), (47, 3, .getfield 33), (50, 1, .iload_n 1), (51, 1, .iload_n 3), (52, 1, .iastore), (53, 1, .iconst 1), (54, 1, .ireturn)], [(3, 0, 9, 0, 0), (17, 2, 128, 3, 0), (30, 0, 9, 6, 3), (33, 0, 9, 7, 3), (39, 1, 132, 1, 9), (43, 4, 0, 0, 999)])
/-- NamesInBagsModel.dies(II)I -/
def nm_m137 : px_M := (⟨"NamesInBagsModel", "dies", "(II)I"⟩, prog_11_method_11_code, 4, (some .int), { frames := 2, cells := 0, slots := 0, locals := 46 }, [(0, 1, .aload_n 0), (1, 1, .iconst 0), (2, 3, .putfield 3), (5, 1, .aload_n 0), (6, 1, .iload_n 1), (7, 3, .invokevirtual 39), (10, 3, .ifCond .eq 15), (13, 1, .iload_n 2), (14, 1, .i2l), (15, 1, .lconst 0), (16, 3, .ldc2_w 45), (19, 3, .invokestatic 17), (22, 3, .ifCond .ne 5), (25, 1, .iconst (-1)), (26, 1, .ireturn), (27, 1, .aload_n 0), (28, 3, .getfield 36), (31, 1, .iload_n 1), (32, 1, .iaload), (33, 1, .istore_n 3), (34, 1, .aload_n 0), (35, 3, .getfield 36), (38, 1, .iload_n 1), (39, 1, .iload_n 2), (40, 1, .iastore), (41, 1, .iload_n 3), (42, 1, .ireturn)], [(3, 0, 9, 0, 0), (17, 2, 128, 3, 0), (36, 0, 9, 8, 3), (39, 1, 132, 1, 9), (45, 4, 0, 0, 1000)])
/-- NamesInBagsModel.sheet(IIII)I -/
def nm_m138 : px_M := (⟨"NamesInBagsModel", "sheet", "(IIII)I"⟩, prog_11_method_12_code, 9, (some .int), { frames := 1, cells := 0, slots := 0, locals := 25 }, [(0, 1, .aload_n 0), (1, 1, .iconst 0), (2, 3, .putfield 3), (5, 1, .iload_n 1), (6, 1, .i2l), (7, 1, .lconst 0), (8, 3, .ldc2_w 47), (11, 3, .invokestatic 17), (14, 3, .ifCond .eq 9), (17, 1, .iload_n 2), (18, 2, .bipush 10), (20, 3, .if_icmp .le 5), (23, 1, .iconst (-1)), (24, 1, .ireturn), (25, 1, .iload_n 1), (26, 1, .iconst 3), (27, 3, .if_icmp .eq 10), (30, 1, .iload_n 2), (31, 3, .ifCond .ge 6), (34, 2, .bipush (-2)), (36, 1, .ireturn), (37, 1, .iload_n 3), (38, 2, .istore 5), (40, 1, .iconst 0), (41, 2, .istore 6), (43, 1, .iconst 0), (44, 2, .istore 7), (46, 2, .iload 7), (48, 1, .aload_n 0), (49, 3, .getfield 14), (52, 3, .if_icmp .ge 87), (55, 1, .iload_n 1), (56, 3, .ifCond .ne 9), (59, 2, .iload 5), (61, 1, .i2b), (62, 3, .goto 16), (65, 1, .iload_n 1), (66, 1, .iconst 1), (67, 3, .if_icmp .ne 9), (70, 2, .iload 5), (72, 1, .i2s), (73, 3, .goto 5), (76, 2, .iload 5), (78, 2, .istore 8), (80, 1, .aload_n 0), (81, 3, .getfield 27), (84, 2, .iload 7), (86, 1, .iload_n 1), (87, 1, .iconst 3), (88, 3, .if_icmp .eq 9), (91, 2, .iload 7), (93, 1, .iload_n 2), (94, 3, .if_icmp .lt 7), (97, 1, .iconst 0), (98, 3, .goto 15), (101, 1, .iconst 0), (102, 3, .sipush 999), (105, 2, .iload 8), (107, 3, .invokestatic 49), (110, 3, .invokestatic 55), (113, 1, .iastore), (114, 2, .iload 6), (116, 1, .aload_n 0), (117, 3, .getfield 27), (120, 2, .iload 7), (122, 1, .iaload), (123, 1, .iadd), (124, 2, .istore 6), (126, 2, .iload 5), (128, 2, .iload 4), (130, 1, .iadd), (131, 2, .istore 5), (133, 3, .iinc 7 1), (136, 3, .goto (-90)), (139, 1, .iload_n 1), (140, 1, .iconst 3), (141, 3, .if_icmp .ne 8), (144, 2, .bipush (-3)), (146, 3, .goto 5), (149, 2, .iload 6), (151, 1, .ireturn)], [(3, 0, 9, 0, 0), (14, 0, 9, 3, 0), (17, 2, 128, 3, 0), (27, 0, 9, 5, 3), (47, 4, 0, 0, 3), (49, 11, 1, 0, 0), (55, 11, 0, 0, 0)])
/-- NamesInBagsModel.isBag(I)Z -/
def nm_m139 : px_M := (⟨"NamesInBagsModel", "isBag", "(I)Z"⟩, prog_11_method_13_code, 1, (some .boolean), { frames := 1, cells := 0, slots := 0, locals := 25 }, [(0, 1, .iload_n 0), (1, 1, .i2l), (2, 1, .lconst 0), (3, 1, .lconst 1), (4, 3, .invokestatic 17), (7, 1, .ireturn)], [(17, 2, 128, 3, 0)])
/-- NamesInBagsModel.pack(II)I -/
def nm_m140 : px_M := (⟨"NamesInBagsModel", "pack", "(II)I"⟩, prog_11_method_14_code, 4, (some .int), { frames := 2, cells := 0, slots := 0, locals := 46 }, [(0, 1, .aload_n 0), (1, 1, .iconst 0), (2, 3, .putfield 3), (5, 1, .iload_n 1), (6, 3, .invokestatic 58), (9, 3, .ifCond .eq 11), (12, 1, .aload_n 0), (13, 1, .iload_n 2), (14, 3, .invokevirtual 61), (17, 3, .ifCond .ne 5), (20, 1, .iconst (-1)), (21, 1, .ireturn), (22, 1, .aload_n 0), (23, 3, .getfield 64), (26, 1, .iload_n 1), (27, 1, .iaload), (28, 1, .istore_n 3), (29, 1, .aload_n 0), (30, 3, .getfield 64), (33, 1, .iload_n 1), (34, 1, .iload_n 2), (35, 1, .iastore), (36, 1, .aload_n 0), (37, 3, .getfield 67), (40, 1, .iload_n 1), (41, 1, .iload_n 2), (42, 1, .iastore), (43, 1, .aload_n 0), (44, 3, .getfield 70), (47, 1, .iload_n 1), (48, 1, .iconst 0), (49, 1, .iastore), (50, 1, .iload_n 3), (51, 1, .ireturn)], [(3, 0, 9, 0, 0), (58, 2, 139, 1, 0), (61, 1, 133, 1, 9), (64, 0, 9, 9, 3), (67, 0, 9, 28, 3), (70, 0, 9, 29, 3)])
/-- NamesInBagsModel.renew(IZ)Z -/
def nm_m141 : px_M := (⟨"NamesInBagsModel", "renew", "(IZ)Z"⟩, prog_11_method_15_code, 3, (some .boolean), { frames := 2, cells := 0, slots := 0, locals := 45 }, [(0, 1, .aload_n 0), (1, 1, .iconst 0), (2, 3, .putfield 3), (5, 1, .iload_n 1), (6, 3, .invokestatic 58), (9, 3, .ifCond .ne 5), (12, 1, .iconst 0), (13, 1, .ireturn), (14, 1, .aload_n 0), (15, 3, .getfield 73), (18, 1, .iload_n 1), (19, 1, .iload_n 2), (20, 1, .bastore), (21, 1, .iconst 1), (22, 1, .ireturn)], [(3, 0, 9, 0, 0), (58, 2, 139, 1, 0), (73, 0, 9, 10, 3)])
/-- NamesInBagsModel.drawing(III)I -/
def nm_m142 : px_M := (⟨"NamesInBagsModel", "drawing", "(III)I"⟩, prog_11_method_16_code, 5, (some .int), { frames := 2, cells := 0, slots := 0, locals := 45 }, [(0, 1, .aload_n 0), (1, 1, .iconst 0), (2, 3, .putfield 3), (5, 1, .iload_n 1), (6, 1, .i2l), (7, 1, .aload_n 0), (8, 3, .getfield 77), (11, 3, .ifCond .ne 7), (14, 1, .lconst 0), (15, 3, .goto 15), (18, 1, .aload_n 0), (19, 3, .getfield 80), (22, 1, .aload_n 0), (23, 3, .getfield 77), (26, 1, .iconst 1), (27, 1, .isub), (28, 1, .iaload), (29, 1, .i2l), (30, 3, .ldc2_w 43), (33, 3, .invokestatic 17), (36, 3, .ifCond .eq 26), (39, 1, .iload_n 2), (40, 3, .invokestatic 58), (43, 3, .ifCond .eq 19), (46, 1, .iload_n 3), (47, 1, .i2l), (48, 1, .lconst 1), (49, 3, .ldc2_w 47), (52, 3, .invokestatic 17), (55, 3, .ifCond .eq 7), (58, 1, .iconst 1), (59, 3, .goto 4), (62, 1, .iconst 0), (63, 2, .istore 4), (65, 2, .iload 4), (67, 3, .ifCond .eq 12), (70, 1, .aload_n 0), (71, 3, .getfield 77), (74, 2, .bipush 6), (76, 3, .if_icmp .ne 5), (79, 1, .iconst (-1)), (80, 1, .ireturn), (81, 1, .aload_n 0), (82, 3, .getfield 80), (85, 1, .aload_n 0), (86, 3, .getfield 77), (89, 1, .iload_n 1), (90, 1, .iastore), (91, 1, .aload_n 0), (92, 3, .getfield 83), (95, 1, .aload_n 0), (96, 3, .getfield 77), (99, 1, .iload_n 2), (100, 1, .iastore), (101, 1, .aload_n 0), (102, 3, .getfield 86), (105, 1, .aload_n 0), (106, 3, .getfield 77), (109, 1, .iload_n 3), (110, 1, .iastore), (111, 1, .aload_n 0), (112, 1, .dup), (113, 3, .getfield 77), (116, 1, .iconst 1), (117, 1, .iadd), (118, 3, .putfield 77), (121, 1, .aload_n 0), (122, 3, .getfield 77), (125, 1, .iconst 1), (126, 1, .isub), (127, 1, .ireturn)], [(3, 0, 9, 0, 0), (17, 2, 128, 3, 0), (43, 4, 0, 0, 999), (47, 4, 0, 0, 3), (58, 2, 139, 1, 0), (77, 0, 9, 11, 0), (80, 0, 9, 12, 3), (83, 0, 9, 13, 3), (86, 0, 9, 14, 3)])
/-- NamesInBagsModel.sign(I)I -/
def nm_m143 : px_M := (⟨"NamesInBagsModel", "sign", "(I)I"⟩, prog_11_method_17_code, 3, (some .int), { frames := 0, cells := 0, slots := 0, locals := 0 }, [(0, 1, .aload_n 0), (1, 1, .iconst 0), (2, 3, .putfield 3), (5, 1, .aload_n 0), (6, 3, .getfield 89), (9, 2, .bipush 36), (11, 3, .if_icmp .le 5), (14, 1, .iconst (-1)), (15, 1, .ireturn), (16, 1, .iconst 0), (17, 1, .istore_n 2), (18, 1, .iload_n 2), (19, 1, .iconst 4), (20, 3, .if_icmp .ge 33), (23, 1, .aload_n 0), (24, 3, .getfield 92), (27, 1, .aload_n 0), (28, 3, .getfield 89), (31, 1, .iload_n 2), (32, 1, .iadd), (33, 1, .iload_n 1), (34, 2, .bipush 24), (36, 2, .bipush 8), (38, 1, .iload_n 2), (39, 1, .imul), (40, 1, .isub), (41, 1, .ishr), (42, 3, .sipush 255), (45, 1, .iand), (46, 1, .iastore), (47, 3, .iinc 2 1), (50, 3, .goto (-32)), (53, 1, .aload_n 0), (54, 1, .dup), (55, 3, .getfield 89), (58, 1, .iconst 4), (59, 1, .iadd), (60, 3, .putfield 89), (63, 1, .aload_n 0), (64, 3, .getfield 89), (67, 1, .ireturn)], [(3, 0, 9, 0, 0), (89, 0, 9, 22, 0), (92, 0, 9, 21, 3)])
/-- NamesInBagsModel.end(I)Z -/
def nm_m144 : px_M := (⟨"NamesInBagsModel", "end", "(I)Z"⟩, prog_11_method_18_code, 2, (some .boolean), { frames := 1, cells := 0, slots := 0, locals := 25 }, [(0, 1, .aload_n 0), (1, 1, .iconst 0), (2, 3, .putfield 3), (5, 1, .iload_n 1), (6, 1, .i2l), (7, 1, .lconst 0), (8, 1, .aload_n 0), (9, 3, .getfield 89), (12, 1, .i2l), (13, 3, .invokestatic 17), (16, 3, .ifCond .ne 5), (19, 1, .iconst 0), (20, 1, .ireturn), (21, 1, .aload_n 0), (22, 1, .iload_n 1), (23, 3, .putfield 89), (26, 1, .iconst 1), (27, 1, .ireturn)], [(3, 0, 9, 0, 0), (17, 2, 128, 3, 0), (89, 0, 9, 22, 0)])
/-- NamesInBagsModel.comes(C)Z -/
def nm_m145 : px_M := (⟨"NamesInBagsModel", "comes", "(C)Z"⟩, prog_11_method_19_code, 3, (some .boolean), { frames := 1, cells := 0, slots := 0, locals := 20 }, [(0, 1, .aload_n 0), (1, 3, .getfield 95), (4, 1, .aload_n 0), (5, 3, .getfield 98), (8, 3, .if_icmp .ge 20), (11, 1, .aload_n 0), (12, 3, .getfield 92), (15, 1, .aload_n 0), (16, 3, .getfield 95), (19, 1, .iaload), (20, 1, .iload_n 1), (21, 3, .if_icmp .ne 7), (24, 1, .iconst 1), (25, 3, .goto 4), (28, 1, .iconst 0), (29, 1, .istore_n 2), (30, 1, .aload_n 0), (31, 1, .dup), (32, 3, .getfield 95), (35, 1, .iload_n 2), (36, 3, .invokestatic 101), (39, 1, .iadd), (40, 3, .putfield 95), (43, 1, .iload_n 2), (44, 1, .ireturn)], [(92, 0, 9, 21, 3), (95, 0, 9, 23, 0), (98, 0, 9, 24, 0), (101, 2, 130, 1, 0)])
/-- NamesInBagsModel.readsLine()Z -/
def nm_m146 : px_M := (⟨"NamesInBagsModel", "readsLine", "()Z"⟩, prog_11_method_20_code, 3, (some .boolean), { frames := 2, cells := 0, slots := 0, locals := 42 }, [(0, 1, .aload_n 0), (1, 2, .bipush 107), (3, 3, .invokevirtual 105), (6, 3, .ifCond .eq 7), (9, 1, .iconst 0), (10, 3, .goto 32), (13, 1, .aload_n 0), (14, 2, .bipush 100), (16, 3, .invokevirtual 105), (19, 3, .ifCond .eq 8), (22, 2, .bipush 7), (24, 3, .goto 18), (27, 1, .aload_n 0), (28, 2, .bipush 119), (30, 3, .invokevirtual 105), (33, 3, .ifCond .eq 8), (36, 2, .bipush 8), (38, 3, .goto 4), (41, 1, .iconst (-1)), (42, 1, .istore_n 1), (43, 1, .iload_n 1), (44, 3, .ifCond .ge 70), (47, 1, .aload_n 0), (48, 2, .bipush 115), (50, 3, .invokevirtual 105), (53, 3, .ifCond .eq 36), (56, 1, .aload_n 0), (57, 3, .getfield 95), (60, 1, .aload_n 0), (61, 3, .getfield 98), (64, 3, .if_icmp .ge 25), (67, 1, .aload_n 0), (68, 3, .getfield 92), (71, 1, .aload_n 0), (72, 3, .getfield 95), (75, 1, .iaload), (76, 1, .i2l), (77, 3, .ldc2_w 109), (80, 3, .ldc2_w 111), (83, 3, .invokestatic 17), (86, 3, .ifCond .ne 5), (89, 1, .iconst 0), (90, 1, .ireturn), (91, 1, .aload_n 0), (92, 3, .getfield 92), (95, 1, .aload_n 0), (96, 3, .getfield 95), (99, 1, .iaload), (100, 2, .bipush 48), (102, 1, .isub), (103, 1, .istore_n 1), (104, 1, .aload_n 0), (105, 1, .dup), (106, 3, .getfield 95), (109, 1, .iconst 1), (110, 1, .iadd), (111, 3, .putfield 95), (114, 1, .aload_n 0), (115, 2, .bipush 98), (117, 3, .invokevirtual 105), (120, 3, .ifCond .eq 7), (123, 1, .iconst 0), (124, 3, .goto 30), (127, 1, .aload_n 0), (128, 2, .bipush 116), (130, 3, .invokevirtual 105), (133, 3, .ifCond .eq 7), (136, 1, .iconst 1), (137, 3, .goto 17), (140, 1, .aload_n 0), (141, 2, .bipush 108), (143, 3, .invokevirtual 105), (146, 3, .ifCond .eq 7), (149, 1, .iconst 2), (150, 3, .goto 4), (153, 1, .iconst (-1)), (154, 1, .istore_n 2), (155, 1, .aload_n 0), (156, 3, .getfield 113), (159, 1, .aload_n 0), (160, 3, .getfield 116), (163, 1, .iload_n 1), (164, 1, .iastore), (165, 1, .aload_n 0), (166, 3, .getfield 119), (169, 1, .aload_n 0), (170, 3, .getfield 116), (173, 1, .iload_n 2), (174, 1, .iastore), (175, 1, .aload_n 0), (176, 1, .dup), (177, 3, .getfield 116), (180, 1, .iload_n 2), (181, 3, .ifCond .lt 7), (184, 1, .iconst 1), (185, 3, .goto 4), (188, 1, .iconst 0), (189, 3, .invokestatic 101), (192, 1, .iadd), (193, 3, .putfield 116), (196, 1, .iload_n 2), (197, 3, .ifCond .lt 7), (200, 1, .iconst 1), (201, 3, .goto 4), (204, 1, .iconst 0), (205, 1, .ireturn)], [(17, 2, 128, 3, 0), (92, 0, 9, 21, 3), (95, 0, 9, 23, 0), (98, 0, 9, 24, 0), (101, 2, 130, 1, 0), (105, 1, 145, 1, 9), (109, 4, 0, 0, 49), (111, 4, 0, 0, 54), (113, 0, 9, 25, 3), (116, 0, 9, 27, 0), (119, 0, 9, 26, 3)])
/-- NamesInBagsModel.readsRule(I)I -/
def nm_m147 : px_M := (⟨"NamesInBagsModel", "readsRule", "(I)I"⟩, prog_11_method_21_code, 7, (some .int), { frames := 3, cells := 0, slots := 0, locals := 64 }, [(0, 1, .aload_n 0), (1, 3, .getfield 89), (4, 1, .istore_n 2), (5, 1, .aload_n 0), (6, 1, .iconst 0), (7, 3, .putfield 89), (10, 1, .aload_n 0), (11, 1, .iconst 0), (12, 3, .putfield 95), (15, 1, .aload_n 0), (16, 1, .iload_n 2), (17, 2, .bipush 20), (19, 3, .invokestatic 49), (22, 3, .putfield 98), (25, 1, .aload_n 0), (26, 1, .iconst 0), (27, 3, .putfield 116), (30, 1, .iconst 1), (31, 1, .istore_n 3), (32, 1, .iload_n 2), (33, 3, .ifCond .le 7), (36, 1, .iconst 1), (37, 3, .goto 4), (40, 1, .iconst 0), (41, 2, .istore 4), (43, 2, .iload 4), (45, 3, .ifCond .eq 31), (48, 1, .aload_n 0), (49, 3, .invokevirtual 122), (52, 1, .istore_n 3), (53, 1, .iload_n 3), (54, 3, .ifCond .eq 16), (57, 1, .aload_n 0), (58, 2, .bipush 59), (60, 3, .invokevirtual 105), (63, 3, .ifCond .eq 7), (66, 1, .iconst 1), (67, 3, .goto 4), (70, 1, .iconst 0), (71, 2, .istore 4), (73, 3, .goto (-30)), (76, 1, .iload_n 3), (77, 3, .ifCond .eq 18), (80, 1, .aload_n 0), (81, 3, .getfield 95), (84, 1, .aload_n 0), (85, 3, .getfield 98), (88, 3, .if_icmp .ne 7), (91, 1, .iconst 1), (92, 3, .goto 4), (95, 1, .iconst 0), (96, 2, .istore 5), (98, 1, .iload_n 2), (99, 2, .bipush 20), (101, 3, .if_icmp .le 20), (104, 2, .iload 5), (106, 3, .ifCond .ne 12), (109, 1, .aload_n 0), (110, 3, .getfield 95), (113, 2, .bipush 20), (115, 3, .if_icmp .lt 6), (118, 2, .bipush (-21)), (120, 1, .ireturn), (121, 2, .iload 5), (123, 3, .ifCond .ne 10), (126, 1, .iconst (-1)), (127, 1, .aload_n 0), (128, 3, .getfield 95), (131, 1, .isub), (132, 1, .ireturn), (133, 1, .aload_n 0), (134, 3, .getfield 126), (137, 1, .iload_n 1), (138, 1, .aload_n 0), (139, 3, .getfield 116), (142, 1, .iastore), (143, 1, .aload_n 0), (144, 3, .getfield 129), (147, 1, .iload_n 1), (148, 1, .iconst 1), (149, 1, .bastore), (150, 1, .iconst 0), (151, 2, .istore 6), (153, 2, .iload 6), (155, 1, .aload_n 0), (156, 3, .getfield 116), (159, 3, .if_icmp .ge 47), (162, 1, .aload_n 0), (163, 3, .getfield 132), (166, 2, .bipush 7), (168, 1, .iload_n 1), (169, 1, .imul), (170, 2, .iload 6), (172, 1, .iadd), (173, 1, .aload_n 0), (174, 3, .getfield 113), (177, 2, .iload 6), (179, 1, .iaload), (180, 1, .iastore), (181, 1, .aload_n 0), (182, 3, .getfield 135), (185, 2, .bipush 7), (187, 1, .iload_n 1), (188, 1, .imul), (189, 2, .iload 6), (191, 1, .iadd), (192, 1, .aload_n 0), (193, 3, .getfield 119), (196, 2, .iload 6), (198, 1, .iaload), (199, 1, .iastore), (200, 3, .iinc 6 1), (203, 3, .goto (-50)), (206, 1, .aload_n 0), (207, 3, .getfield 116), (210, 1, .ireturn)], [(49, 11, 1, 0, 0), (89, 0, 9, 22, 0), (95, 0, 9, 23, 0), (98, 0, 9, 24, 0), (105, 1, 145, 1, 9), (113, 0, 9, 25, 3), (116, 0, 9, 27, 0), (119, 0, 9, 26, 3), (122, 1, 146, 0, 9), (126, 0, 9, 16, 3), (129, 0, 9, 17, 3), (132, 0, 9, 18, 3), (135, 0, 9, 19, 3)])
/-- NamesInBagsModel.rule()I -/
def nm_m148 : px_M := (⟨"NamesInBagsModel", "rule", "()I"⟩, prog_11_method_22_code, 1, (some .int), { frames := 4, cells := 0, slots := 0, locals := 90 }, [(0, 1, .aload_n 0), (1, 1, .iconst 0), (2, 3, .putfield 3), (5, 1, .aload_n 0), (6, 1, .iconst 0), (7, 3, .invokevirtual 138), (10, 1, .ireturn)], [(3, 0, 9, 0, 0), (138, 1, 147, 1, 9)])
/-- NamesInBagsModel.other(I)I -/
def nm_m149 : px_M := (⟨"NamesInBagsModel", "other", "(I)I"⟩, prog_11_method_23_code, 2, (some .int), { frames := 4, cells := 0, slots := 0, locals := 90 }, [(0, 1, .aload_n 0), (1, 1, .iconst 0), (2, 3, .putfield 3), (5, 1, .iload_n 1), (6, 1, .i2l), (7, 1, .lconst 0), (8, 3, .ldc2_w 142), (11, 3, .invokestatic 17), (14, 3, .ifCond .ne 11), (17, 1, .aload_n 0), (18, 1, .iconst 0), (19, 3, .putfield 89), (22, 2, .bipush (-100)), (24, 1, .ireturn), (25, 1, .aload_n 0), (26, 1, .iconst 1), (27, 1, .iload_n 1), (28, 1, .iadd), (29, 3, .invokevirtual 138), (32, 1, .ireturn)], [(3, 0, 9, 0, 0), (17, 2, 128, 3, 0), (89, 0, 9, 22, 0), (138, 1, 147, 1, 9), (142, 4, 0, 0, 2)])
/-- NamesInBagsModel.isDead(II)Z -/
def nm_m150 : px_M := (⟨"NamesInBagsModel", "isDead", "(II)Z"⟩, prog_11_method_24_code, 3, (some .boolean), { frames := 0, cells := 0, slots := 0, locals := 0 }, [(0, 1, .aload_n 0), (1, 3, .getfield 80), (4, 1, .iload_n 2), (5, 1, .iaload), (6, 1, .aload_n 0), (7, 3, .getfield 36), (10, 1, .iload_n 1), (11, 1, .iaload), (12, 3, .if_icmp .lt 7), (15, 1, .iconst 1), (16, 3, .goto 4), (19, 1, .iconst 0), (20, 1, .ireturn)], [(36, 0, 9, 8, 3), (80, 0, 9, 12, 3)])
/-- NamesInBagsModel.doesBar(III)Z -/
def nm_m151 : px_M := (⟨"NamesInBagsModel", "doesBar", "(III)Z"⟩, prog_11_method_26_code, 6, (some .boolean), { frames := 1, cells := 0, slots := 0, locals := 25 }, [(0, 1, .aload_n 0), (1, 3, .getfield 80), (4, 1, .iload_n 3), (5, 1, .iaload), (6, 2, .istore 4), (8, 1, .iload_n 1), (9, 3, .ifCond .ne 53), (12, 1, .iconst 0), (13, 2, .istore 5), (15, 2, .iload 5), (17, 1, .aload_n 0), (18, 3, .getfield 14), (21, 3, .if_icmp .ge 39), (24, 1, .aload_n 0), (25, 3, .getfield 151), (28, 2, .iload 5), (30, 3, .invokestatic 154), (33, 3, .ifCond .eq 21), (36, 1, .aload_n 0), (37, 3, .getfield 23), (40, 2, .iload 5), (42, 1, .iaload), (43, 1, .aload_n 0), (44, 3, .getfield 23), (47, 1, .iload_n 2), (48, 1, .iaload), (49, 3, .if_icmp .ne 5), (52, 1, .iconst 1), (53, 1, .ireturn), (54, 3, .iinc 5 1), (57, 3, .goto (-42)), (60, 1, .iconst 0), (61, 1, .ireturn), (62, 1, .iload_n 1), (63, 2, .bipush 7), (65, 3, .if_icmp .ne 20), (68, 2, .iload 4), (70, 1, .aload_n 0), (71, 3, .getfield 27), (74, 1, .iload_n 2), (75, 1, .iaload), (76, 3, .if_icmp .ge 7), (79, 1, .iconst 1), (80, 3, .goto 4), (83, 1, .iconst 0), (84, 1, .ireturn), (85, 1, .iload_n 1), (86, 2, .bipush 8), (88, 3, .if_icmp .ne 43), (91, 1, .aload_n 0), (92, 3, .getfield 158), (95, 1, .iload_n 2), (96, 3, .invokestatic 154), (99, 3, .ifCond .ne 26), (102, 2, .iload 4), (104, 1, .i2l), (105, 1, .aload_n 0), (106, 3, .getfield 30), (109, 1, .iload_n 2), (110, 1, .iaload), (111, 1, .i2l), (112, 1, .aload_n 0), (113, 3, .getfield 33), (116, 1, .iload_n 2), (117, 1, .iaload), (118, 1, .i2l), (119, 3, .invokestatic 17), (122, 3, .ifCond .eq 7), (125, 1, .iconst 1), (126, 3, .goto 4), (129, 1, .iconst 0), (130, 1, .ireturn), (131, 1, .aload_n 0), (132, 3, .getfield 161), (135, 1, .iload_n 2), (136, 1, .iaload), (137, 3, .ifCond .le 21), (140, 1, .aload_n 0), (141, 3, .getfield 161), (144, 1, .iload_n 2), (145, 1, .iaload), (146, 1, .iconst 1), (147, 1, .isub), (148, 1, .iload_n 3), (149, 1, .iload_n 1), (150, 1, .isub), (151, 3, .if_icmp .lt 7), (154, 1, .iconst 1), (155, 3, .goto 4), (158, 1, .iconst 0), (159, 1, .ireturn)], [(14, 0, 9, 3, 0), (17, 2, 128, 3, 0), (23, 0, 9, 4, 3), (27, 0, 9, 5, 3), (30, 0, 9, 6, 3), (33, 0, 9, 7, 3), (80, 0, 9, 12, 3), (151, 0, 9, 33, 0), (154, 2, 129, 2, 0), (158, 0, 9, 20, 0), (161, 0, 9, 30, 3)])
/-- NamesInBagsModel.barredBy(II)I -/
def nm_m152 : px_M := (⟨"NamesInBagsModel", "barredBy", "(II)I"⟩, prog_11_method_25_code, 4, (some .int), { frames := 2, cells := 0, slots := 0, locals := 50 }, [(0, 1, .iconst 0), (1, 1, .istore_n 3), (2, 1, .iload_n 3), (3, 1, .aload_n 0), (4, 3, .getfield 126), (7, 1, .aload_n 0), (8, 3, .getfield 144), (11, 1, .iaload), (12, 3, .if_icmp .ge 34), (15, 1, .aload_n 0), (16, 1, .aload_n 0), (17, 3, .getfield 132), (20, 2, .bipush 7), (22, 1, .aload_n 0), (23, 3, .getfield 144), (26, 1, .imul), (27, 1, .iload_n 3), (28, 1, .iadd), (29, 1, .iaload), (30, 1, .iload_n 1), (31, 1, .iload_n 2), (32, 3, .invokevirtual 147), (35, 3, .ifCond .eq 5), (38, 1, .iload_n 3), (39, 1, .ireturn), (40, 3, .iinc 3 1), (43, 3, .goto (-41)), (46, 1, .iconst (-1)), (47, 1, .ireturn)], [(126, 0, 9, 16, 3), (132, 0, 9, 18, 3), (144, 0, 9, 15, 0), (147, 1, 151, 3, 9)])
/-- NamesInBagsModel.opens(I)V -/
def nm_m153 : px_M := (⟨"NamesInBagsModel", "opens", "(I)V"⟩, prog_11_method_27_code, 4, none, { frames := 3, cells := 0, slots := 0, locals := 73 }, [(0, 1, .aload_n 0), (1, 3, .getfield 83), (4, 1, .iload_n 1), (5, 1, .iaload), (6, 1, .istore_n 2), (7, 1, .aload_n 0), (8, 1, .iconst 0), (9, 3, .putfield 164), (12, 1, .aload_n 0), (13, 1, .iconst 0), (14, 3, .putfield 151), (17, 1, .aload_n 0), (18, 3, .getfield 67), (21, 1, .iload_n 2), (22, 1, .iaload), (23, 3, .ifCond .ne 32), (26, 1, .aload_n 0), (27, 3, .getfield 73), (30, 1, .iload_n 2), (31, 1, .baload), (32, 3, .ifCond .eq 23), (35, 1, .aload_n 0), (36, 3, .getfield 67), (39, 1, .iload_n 2), (40, 1, .aload_n 0), (41, 3, .getfield 64), (44, 1, .iload_n 2), (45, 1, .iaload), (46, 1, .iastore), (47, 1, .aload_n 0), (48, 3, .getfield 70), (51, 1, .iload_n 2), (52, 1, .iconst 0), (53, 1, .iastore), (54, 1, .return_), (55, 1, .iconst 0), (56, 1, .istore_n 3), (57, 1, .iload_n 3), (58, 1, .aload_n 0), (59, 3, .getfield 14), (62, 3, .if_icmp .ge 57), (65, 1, .aload_n 0), (66, 3, .getfield 70), (69, 1, .iload_n 2), (70, 1, .iaload), (71, 1, .iload_n 3), (72, 3, .invokestatic 154), (75, 3, .ifCond .eq 38), (78, 1, .aload_n 0), (79, 1, .iload_n 3), (80, 1, .iload_n 1), (81, 3, .invokevirtual 167), (84, 3, .ifCond .ge 29), (87, 1, .aload_n 0), (88, 3, .getfield 70), (91, 1, .iload_n 2), (92, 1, .dup2), (93, 1, .iaload), (94, 1, .iconst 1), (95, 1, .iload_n 3), (96, 1, .ishl), (97, 1, .iconst (-1)), (98, 1, .ixor), (99, 1, .iand), (100, 1, .iastore), (101, 1, .aload_n 0), (102, 3, .getfield 67), (105, 1, .iload_n 2), (106, 1, .dup2), (107, 1, .iaload), (108, 1, .iconst 1), (109, 1, .iload_n 3), (110, 1, .ishl), (111, 1, .ior), (112, 1, .iastore), (113, 3, .iinc 3 1), (116, 3, .goto (-59)), (119, 1, .return_)], [(14, 0, 9, 3, 0), (64, 0, 9, 9, 3), (67, 0, 9, 28, 3), (70, 0, 9, 29, 3), (73, 0, 9, 10, 3), (83, 0, 9, 13, 3), (151, 0, 9, 33, 0), (154, 2, 129, 2, 0), (164, 0, 9, 32, 0), (167, 1, 152, 2, 9)])
/-- NamesInBagsModel.isOver(I)Z -/
def nm_m154 : px_M := (⟨"NamesInBagsModel", "isOver", "(I)Z"⟩, prog_11_method_28_code, 2, (some .boolean), { frames := 1, cells := 0, slots := 0, locals := 20 }, [(0, 1, .aload_n 0), (1, 3, .getfield 67), (4, 1, .aload_n 0), (5, 3, .getfield 83), (8, 1, .iload_n 1), (9, 1, .iaload), (10, 1, .iaload), (11, 3, .ifCond .eq 19), (14, 1, .aload_n 0), (15, 3, .getfield 151), (18, 3, .invokestatic 170), (21, 1, .aload_n 0), (22, 3, .getfield 86), (25, 1, .iload_n 1), (26, 1, .iaload), (27, 3, .if_icmp .ne 7), (30, 1, .iconst 1), (31, 3, .goto 4), (34, 1, .iconst 0), (35, 1, .ireturn)], [(67, 0, 9, 28, 3), (83, 0, 9, 13, 3), (86, 0, 9, 14, 3), (151, 0, 9, 33, 0), (170, 2, 11, 1, 0)])
/-- NamesInBagsModel.takes(II)Z -/
def nm_m155 : px_M := (⟨"NamesInBagsModel", "takes", "(II)Z"⟩, prog_11_method_29_code, 6, (some .boolean), { frames := 3, cells := 0, slots := 0, locals := 73 }, [(0, 1, .aload_n 0), (1, 3, .getfield 83), (4, 1, .iload_n 1), (5, 1, .iaload), (6, 1, .istore_n 3), (7, 1, .aload_n 0), (8, 3, .getfield 67), (11, 1, .iload_n 3), (12, 1, .dup2), (13, 1, .iaload), (14, 1, .iconst 1), (15, 1, .iload_n 2), (16, 1, .ishl), (17, 1, .iconst (-1)), (18, 1, .ixor), (19, 1, .iand), (20, 1, .iastore), (21, 1, .aload_n 0), (22, 1, .iload_n 2), (23, 1, .iload_n 1), (24, 3, .invokevirtual 175), (27, 3, .ifCond .eq 5), (30, 1, .iconst 0), (31, 1, .ireturn), (32, 1, .aload_n 0), (33, 1, .iload_n 2), (34, 1, .iload_n 1), (35, 3, .invokevirtual 167), (38, 2, .istore 4), (40, 2, .iload 4), (42, 3, .ifCond .ge 26), (45, 1, .aload_n 0), (46, 1, .dup), (47, 3, .getfield 151), (50, 1, .iconst 1), (51, 1, .iload_n 2), (52, 1, .ishl), (53, 1, .ior), (54, 3, .putfield 151), (57, 1, .aload_n 0), (58, 3, .getfield 161), (61, 1, .iload_n 2), (62, 1, .iload_n 1), (63, 1, .iconst 1), (64, 1, .iadd), (65, 1, .iastore), (66, 1, .iconst 1), (67, 1, .ireturn), (68, 1, .aload_n 0), (69, 3, .getfield 135), (72, 2, .bipush 7), (74, 1, .aload_n 0), (75, 3, .getfield 144), (78, 1, .imul), (79, 2, .iload 4), (81, 1, .iadd), (82, 1, .iaload), (83, 2, .istore 5), (85, 1, .aload_n 0), (86, 1, .dup), (87, 3, .getfield 164), (90, 2, .iload 5), (92, 3, .ifCond .ne 9), (95, 1, .iconst 1), (96, 1, .iload_n 2), (97, 1, .ishl), (98, 3, .goto 4), (101, 1, .iconst 0), (102, 1, .ior), (103, 3, .putfield 164), (106, 1, .aload_n 0), (107, 3, .getfield 70), (110, 1, .iload_n 3), (111, 1, .dup2), (112, 1, .iaload), (113, 2, .iload 5), (115, 1, .iconst 2), (116, 3, .if_icmp .ne 9), (119, 1, .iconst 1), (120, 1, .iload_n 2), (121, 1, .ishl), (122, 3, .goto 4), (125, 1, .iconst 0), (126, 1, .ior), (127, 1, .iastore), (128, 1, .iconst 0), (129, 1, .ireturn)], [(67, 0, 9, 28, 3), (70, 0, 9, 29, 3), (83, 0, 9, 13, 3), (135, 0, 9, 19, 3), (144, 0, 9, 15, 0), (151, 0, 9, 33, 0), (161, 0, 9, 30, 3), (164, 0, 9, 32, 0), (167, 1, 152, 2, 9), (175, 1, 150, 2, 9)])
/-- NamesInBagsModel.closes(I)V -/
def nm_m156 : px_M := (⟨"NamesInBagsModel", "closes", "(I)V"⟩, prog_11_method_30_code, 2, none, { frames := 0, cells := 0, slots := 0, locals := 0 }, [(0, 1, .aload_n 0), (1, 3, .getfield 67), (4, 1, .aload_n 0), (5, 3, .getfield 83), (8, 1, .iload_n 1), (9, 1, .iaload), (10, 1, .dup2), (11, 1, .iaload), (12, 1, .aload_n 0), (13, 3, .getfield 164), (16, 1, .ior), (17, 1, .iastore), (18, 1, .aload_n 0), (19, 1, .iconst 0), (20, 3, .putfield 164), (23, 1, .aload_n 0), (24, 1, .iconst 0), (25, 3, .putfield 151), (28, 1, .aload_n 0), (29, 1, .iload_n 1), (30, 1, .iconst 1), (31, 1, .iadd), (32, 3, .putfield 178), (35, 1, .return_)], [(67, 0, 9, 28, 3), (83, 0, 9, 13, 3), (151, 0, 9, 33, 0), (164, 0, 9, 32, 0), (178, 0, 9, 31, 0)])
/-- NamesInBagsModel.isAsBefore()V -/
def nm_m157 : px_M := (⟨"NamesInBagsModel", "isAsBefore", "()V"⟩, prog_11_method_31_code, 2, none, { frames := 0, cells := 0, slots := 0, locals := 0 }, [(0, 1, .iconst 0), (1, 1, .istore_n 1), (2, 1, .iload_n 1), (3, 1, .iconst 2), (4, 3, .if_icmp .ge 28), (7, 1, .aload_n 0), (8, 3, .getfield 67), (11, 1, .iload_n 1), (12, 1, .aload_n 0), (13, 3, .getfield 64), (16, 1, .iload_n 1), (17, 1, .iaload), (18, 1, .iastore), (19, 1, .aload_n 0), (20, 3, .getfield 70), (23, 1, .iload_n 1), (24, 1, .iconst 0), (25, 1, .iastore), (26, 3, .iinc 1 1), (29, 3, .goto (-27)), (32, 1, .iconst 0), (33, 1, .istore_n 1), (34, 1, .iload_n 1), (35, 2, .bipush 10), (37, 3, .if_icmp .ge 16), (40, 1, .aload_n 0), (41, 3, .getfield 161), (44, 1, .iload_n 1), (45, 1, .iconst 0), (46, 1, .iastore), (47, 3, .iinc 1 1), (50, 3, .goto (-16)), (53, 1, .aload_n 0), (54, 1, .iconst 0), (55, 3, .putfield 164), (58, 1, .aload_n 0), (59, 1, .iconst 0), (60, 3, .putfield 151), (63, 1, .aload_n 0), (64, 1, .iconst 0), (65, 3, .putfield 178), (68, 1, .return_)], [(64, 0, 9, 9, 3), (67, 0, 9, 28, 3), (70, 0, 9, 29, 3), (151, 0, 9, 33, 0), (161, 0, 9, 30, 3), (164, 0, 9, 32, 0), (178, 0, 9, 31, 0)])
/-- NamesInBagsModel.first()J -/
def nm_m158 : px_M := (⟨"NamesInBagsModel", "first", "()J"⟩, prog_11_method_32_code, 3, (some .long), { frames := 0, cells := 0, slots := 0, locals := 0 }, [(0, 1, .aload_n 0), (1, 3, .getfield 67), (4, 1, .iconst 0), (5, 1, .iaload), (6, 1, .aload_n 0), (7, 3, .getfield 67), (10, 1, .iconst 1), (11, 1, .iaload), (12, 2, .bipush 10), (14, 1, .ishl), (15, 1, .ior), (16, 1, .i2l), (17, 1, .lstore_n 1), (18, 1, .lload_n 1), (19, 1, .aload_n 0), (20, 3, .getfield 70), (23, 1, .iconst 0), (24, 1, .iaload), (25, 1, .i2l), (26, 2, .bipush 20), (28, 1, .lshl), (29, 1, .aload_n 0), (30, 3, .getfield 70), (33, 1, .iconst 1), (34, 1, .iaload), (35, 1, .i2l), (36, 2, .bipush 30), (38, 1, .lshl), (39, 1, .lor), (40, 1, .aload_n 0), (41, 3, .getfield 164), (44, 1, .i2l), (45, 2, .bipush 40), (47, 1, .lshl), (48, 1, .lor), (49, 1, .aload_n 0), (50, 3, .getfield 151), (53, 1, .i2l), (54, 2, .bipush 50), (56, 1, .lshl), (57, 1, .lor), (58, 1, .lor), (59, 1, .lstore_n 1), (60, 1, .lload_n 1), (61, 1, .lreturn)], [(67, 0, 9, 28, 3), (70, 0, 9, 29, 3), (151, 0, 9, 33, 0), (164, 0, 9, 32, 0)])
/-- NamesInBagsModel.second()J -/
def nm_m159 : px_M := (⟨"NamesInBagsModel", "second", "()J"⟩, prog_11_method_33_code, 4, (some .long), { frames := 0, cells := 0, slots := 0, locals := 0 }, [(0, 1, .lconst 0), (1, 1, .lstore_n 1), (2, 1, .iconst 0), (3, 1, .istore_n 3), (4, 1, .iload_n 3), (5, 2, .bipush 10), (7, 3, .if_icmp .ge 21), (10, 1, .lload_n 1), (11, 1, .iconst 3), (12, 1, .lshl), (13, 1, .aload_n 0), (14, 3, .getfield 161), (17, 1, .iload_n 3), (18, 1, .iaload), (19, 1, .i2l), (20, 1, .lor), (21, 1, .lstore_n 1), (22, 3, .iinc 3 1), (25, 3, .goto (-21)), (28, 1, .lload_n 1), (29, 1, .lreturn)], [(161, 0, 9, 30, 3)])
/-- NamesInBagsModel.unpacks(JJ)V -/
def nm_m160 : px_M := (⟨"NamesInBagsModel", "unpacks", "(JJ)V"⟩, prog_11_method_34_code, 8, none, { frames := 0, cells := 0, slots := 0, locals := 0 }, [(0, 1, .aload_n 0), (1, 3, .getfield 67), (4, 1, .iconst 0), (5, 1, .lload_n 1), (6, 3, .ldc2_w 181), (9, 1, .land), (10, 1, .l2i), (11, 1, .iastore), (12, 1, .aload_n 0), (13, 3, .getfield 67), (16, 1, .iconst 1), (17, 1, .lload_n 1), (18, 2, .bipush 10), (20, 1, .lshr), (21, 3, .ldc2_w 181), (24, 1, .land), (25, 1, .l2i), (26, 1, .iastore), (27, 1, .aload_n 0), (28, 3, .getfield 70), (31, 1, .iconst 0), (32, 1, .lload_n 1), (33, 2, .bipush 20), (35, 1, .lshr), (36, 3, .ldc2_w 181), (39, 1, .land), (40, 1, .l2i), (41, 1, .iastore), (42, 1, .aload_n 0), (43, 3, .getfield 70), (46, 1, .iconst 1), (47, 1, .lload_n 1), (48, 2, .bipush 30), (50, 1, .lshr), (51, 3, .ldc2_w 181), (54, 1, .land), (55, 1, .l2i), (56, 1, .iastore), (57, 1, .aload_n 0), (58, 1, .lload_n 1), (59, 2, .bipush 40), (61, 1, .lshr), (62, 3, .ldc2_w 181), (65, 1, .land), (66, 1, .l2i), (67, 3, .putfield 164), (70, 1, .aload_n 0), (71, 1, .lload_n 1), (72, 2, .bipush 50), (74, 1, .lshr), (75, 3, .ldc2_w 181), (78, 1, .land), (79, 1, .l2i), (80, 3, .putfield 151), (83, 1, .lload_n 3), (84, 2, .lstore 5), (86, 2, .bipush 9), (88, 2, .istore 7), (90, 2, .iload 7), (92, 3, .ifCond .lt 29), (95, 1, .aload_n 0), (96, 3, .getfield 161), (99, 2, .iload 7), (101, 2, .lload 5), (103, 3, .ldc2_w 183), (106, 1, .land), (107, 1, .l2i), (108, 1, .iastore), (109, 2, .lload 5), (111, 1, .iconst 3), (112, 1, .lshr), (113, 2, .lstore 5), (115, 3, .iinc 7 (-1)), (118, 3, .goto (-28)), (121, 1, .return_)], [(67, 0, 9, 28, 3), (70, 0, 9, 29, 3), (151, 0, 9, 33, 0), (161, 0, 9, 30, 3), (164, 0, 9, 32, 0), (181, 4, 0, 0, 1023), (183, 4, 0, 0, 7)])
/-- NamesInBagsModel.remembers()V -/
def nm_m161 : px_M := (⟨"NamesInBagsModel", "remembers", "()V"⟩, prog_11_method_35_code, 1, none, { frames := 1, cells := 0, slots := 0, locals := 23 }, [(0, 1, .aload_n 0), (1, 1, .aload_n 0), (2, 3, .invokevirtual 185), (5, 3, .putfield 189), (8, 1, .aload_n 0), (9, 1, .aload_n 0), (10, 3, .invokevirtual 193), (13, 3, .putfield 196), (16, 1, .aload_n 0), (17, 1, .aload_n 0), (18, 3, .getfield 178), (21, 3, .putfield 199), (24, 1, .return_)], [(178, 0, 9, 31, 0), (185, 1, 158, 0, 9), (189, 0, 9, 34, 0), (193, 1, 159, 0, 9), (196, 0, 9, 35, 0), (199, 0, 9, 36, 0)])
/-- NamesInBagsModel.comesBack()V -/
def nm_m162 : px_M := (⟨"NamesInBagsModel", "comesBack", "()V"⟩, prog_11_method_36_code, 1, none, { frames := 1, cells := 0, slots := 0, locals := 27 }, [(0, 1, .aload_n 0), (1, 1, .aload_n 0), (2, 3, .getfield 189), (5, 1, .aload_n 0), (6, 3, .getfield 196), (9, 3, .invokevirtual 202), (12, 1, .aload_n 0), (13, 1, .aload_n 0), (14, 3, .getfield 199), (17, 3, .putfield 178), (20, 1, .return_)], [(178, 0, 9, 31, 0), (189, 0, 9, 34, 0), (196, 0, 9, 35, 0), (199, 0, 9, 36, 0), (202, 1, 160, 2, 9)])
/-- NamesInBagsModel.draws(I)I -/
def nm_m163 : px_M := (⟨"NamesInBagsModel", "draws", "(I)I"⟩, prog_11_method_37_code, 2, (some .int), { frames := 0, cells := 0, slots := 0, locals := 0 }, [(0, 1, .aload_n 0), (1, 1, .aload_n 0), (2, 3, .getfield 206), (5, 2, .ldc 209), (7, 1, .imul), (8, 3, .sipush 12345), (11, 1, .iadd), (12, 3, .putfield 206), (15, 1, .aload_n 0), (16, 3, .getfield 206), (19, 2, .bipush 16), (21, 1, .iushr), (22, 1, .iload_n 1), (23, 1, .irem), (24, 1, .ireturn)], [(206, 0, 9, 37, 0), (209, 3, 0, 0, 1103515245)])
/-- NamesInBagsModel.nth(II)I -/
def nm_m164 : px_M := (⟨"NamesInBagsModel", "nth", "(II)I"⟩, prog_11_method_38_code, 4, (some .int), { frames := 1, cells := 0, slots := 0, locals := 21 }, [(0, 1, .iload_n 1), (1, 1, .istore_n 2), (2, 1, .iconst 0), (3, 1, .istore_n 3), (4, 1, .iload_n 3), (5, 2, .bipush 10), (7, 3, .if_icmp .ge 26), (10, 1, .iload_n 0), (11, 1, .iload_n 3), (12, 3, .invokestatic 154), (15, 3, .ifCond .eq 12), (18, 1, .iload_n 2), (19, 3, .ifCond .ne 5), (22, 1, .iload_n 3), (23, 1, .ireturn), (24, 3, .iinc 2 (-1)), (27, 3, .iinc 3 1), (30, 3, .goto (-26)), (33, 1, .iconst (-1)), (34, 1, .ireturn)], [(154, 2, 129, 2, 0)])
/-- NamesInBagsModel.bars(I)I -/
def nm_m165 : px_M := (⟨"NamesInBagsModel", "bars", "(I)I"⟩, prog_11_method_39_code, 3, (some .int), { frames := 3, cells := 0, slots := 0, locals := 73 }, [(0, 1, .aload_n 0), (1, 1, .iconst 0), (2, 3, .putfield 3), (5, 1, .aload_n 0), (6, 1, .iload_n 1), (7, 3, .invokevirtual 39), (10, 3, .ifCond .eq 14), (13, 1, .aload_n 0), (14, 3, .getfield 178), (17, 1, .aload_n 0), (18, 3, .getfield 77), (21, 3, .if_icmp .lt 5), (24, 1, .iconst (-1)), (25, 1, .ireturn), (26, 1, .aload_n 0), (27, 1, .iload_n 1), (28, 1, .aload_n 0), (29, 3, .getfield 178), (32, 3, .invokevirtual 175), (35, 3, .ifCond .eq 6), (38, 2, .bipush (-3)), (40, 1, .ireturn), (41, 1, .aload_n 0), (42, 1, .iload_n 1), (43, 1, .aload_n 0), (44, 3, .getfield 178), (47, 3, .invokevirtual 167), (50, 1, .istore_n 2), (51, 1, .iload_n 2), (52, 3, .ifCond .ge 8), (55, 2, .bipush (-2)), (57, 3, .goto 4), (60, 1, .iload_n 2), (61, 1, .ireturn)], [(3, 0, 9, 0, 0), (39, 1, 132, 1, 9), (77, 0, 9, 11, 0), (167, 1, 152, 2, 9), (175, 1, 150, 2, 9), (178, 0, 9, 31, 0)])
/-- NamesInBagsModel.run()I -/
def nm_m166 : px_M := (⟨"NamesInBagsModel", "run", "()I"⟩, prog_11_method_40_code, 6, (some .int), { frames := 4, cells := 0, slots := 0, locals := 98 }, [(0, 1, .aload_n 0), (1, 1, .iconst 0), (2, 3, .putfield 3), (5, 1, .aload_n 0), (6, 3, .getfield 178), (9, 1, .aload_n 0), (10, 3, .getfield 77), (13, 3, .if_icmp .lt 5), (16, 1, .iconst (-1)), (17, 1, .ireturn), (18, 1, .aload_n 0), (19, 3, .getfield 178), (22, 1, .istore_n 1), (23, 1, .iconst 0), (24, 1, .istore_n 2), (25, 1, .iconst 0), (26, 1, .istore_n 3), (27, 1, .aload_n 0), (28, 1, .iload_n 1), (29, 3, .invokevirtual 210), (32, 1, .aload_n 0), (33, 1, .iload_n 1), (34, 3, .invokevirtual 214), (37, 3, .ifCond .ne 67), (40, 1, .aload_n 0), (41, 3, .getfield 67), (44, 1, .aload_n 0), (45, 3, .getfield 83), (48, 1, .iload_n 1), (49, 1, .iaload), (50, 1, .iaload), (51, 2, .istore 4), (53, 2, .iload 4), (55, 1, .aload_n 0), (56, 2, .iload 4), (58, 3, .invokestatic 170), (61, 3, .invokevirtual 217), (64, 3, .invokestatic 220), (67, 2, .istore 5), (69, 1, .aload_n 0), (70, 3, .getfield 223), (73, 1, .iload_n 3), (74, 2, .iload 5), (76, 1, .iastore), (77, 3, .iinc 3 1), (80, 1, .aload_n 0), (81, 1, .iload_n 1), (82, 2, .iload 5), (84, 3, .invokevirtual 226), (87, 3, .ifCond .eq 14), (90, 1, .aload_n 0), (91, 3, .getfield 229), (94, 1, .iload_n 2), (95, 2, .iload 5), (97, 1, .iastore), (98, 3, .iinc 2 1), (101, 3, .goto (-69)), (104, 1, .aload_n 0), (105, 1, .iload_n 1), (106, 3, .invokevirtual 232), (109, 1, .aload_n 0), (110, 1, .iconst 0), (111, 3, .putfield 11), (114, 1, .iconst 0), (115, 2, .istore 4), (117, 2, .iload 4), (119, 1, .iload_n 2), (120, 3, .if_icmp .ge 21), (123, 1, .aload_n 0), (124, 1, .aload_n 0), (125, 3, .getfield 229), (128, 2, .iload 4), (130, 1, .iaload), (131, 1, .i2l), (132, 3, .invokevirtual 235), (135, 3, .iinc 4 1), (138, 3, .goto (-21)), (141, 1, .iconst 0), (142, 2, .istore 4), (144, 2, .iload 4), (146, 1, .iload_n 3), (147, 3, .if_icmp .ge 21), (150, 1, .aload_n 0), (151, 1, .aload_n 0), (152, 3, .getfield 223), (155, 2, .iload 4), (157, 1, .iaload), (158, 1, .i2l), (159, 3, .invokevirtual 235), (162, 3, .iinc 4 1), (165, 3, .goto (-21)), (168, 1, .iload_n 2), (169, 1, .ireturn)], [(3, 0, 9, 0, 0), (11, 0, 9, 1, 0), (67, 0, 9, 28, 3), (77, 0, 9, 11, 0), (83, 0, 9, 13, 3), (170, 2, 11, 1, 0), (178, 0, 9, 31, 0), (210, 1, 153, 1, 9), (214, 1, 154, 1, 9), (217, 1, 163, 1, 9), (220, 2, 164, 2, 0), (223, 0, 9, 39, 3), (226, 1, 155, 2, 9), (229, 0, 9, 38, 3), (232, 1, 156, 1, 9), (235, 1, 131, 1, 9)])
/-- NamesInBagsModel.goesBy(JI)I -/
def nm_m167 : px_M := (⟨"NamesInBagsModel", "goesBy", "(JI)I"⟩, prog_11_method_41_code, 7, (some .int), { frames := 4, cells := 0, slots := 0, locals := 98 }, [(0, 1, .aload_n 0), (1, 3, .getfield 178), (4, 2, .istore 4), (6, 1, .aload_n 0), (7, 2, .iload 4), (9, 3, .invokevirtual 210), (12, 1, .iconst 0), (13, 2, .istore 5), (15, 2, .iload 5), (17, 1, .iload_n 3), (18, 3, .if_icmp .ge 70), (21, 1, .lload_n 1), (22, 1, .iconst 4), (23, 2, .iload 5), (25, 1, .imul), (26, 1, .lshr), (27, 3, .ldc2_w 239), (30, 1, .land), (31, 1, .l2i), (32, 2, .istore 6), (34, 1, .aload_n 0), (35, 2, .iload 4), (37, 3, .invokevirtual 214), (40, 3, .ifCond .ne 30), (43, 2, .iload 6), (45, 2, .bipush 10), (47, 3, .if_icmp .ge 23), (50, 1, .aload_n 0), (51, 3, .getfield 67), (54, 1, .aload_n 0), (55, 3, .getfield 83), (58, 2, .iload 4), (60, 1, .iaload), (61, 1, .iaload), (62, 2, .iload 6), (64, 3, .invokestatic 154), (67, 3, .ifCond .ne 6), (70, 2, .iload 5), (72, 1, .ireturn), (73, 1, .aload_n 0), (74, 2, .iload 4), (76, 2, .iload 6), (78, 3, .invokevirtual 226), (81, 1, .pop), (82, 3, .iinc 5 1), (85, 3, .goto (-70)), (88, 1, .iload_n 3), (89, 1, .ireturn)], [(67, 0, 9, 28, 3), (83, 0, 9, 13, 3), (154, 2, 129, 2, 0), (178, 0, 9, 31, 0), (210, 1, 153, 1, 9), (214, 1, 154, 1, 9), (226, 1, 155, 2, 9), (239, 4, 0, 0, 15)])
/-- NamesInBagsModel.judge(JI)I -/
def nm_m168 : px_M := (⟨"NamesInBagsModel", "judge", "(JI)I"⟩, prog_11_method_42_code, 5, (some .int), { frames := 5, cells := 0, slots := 0, locals := 124 }, [(0, 1, .aload_n 0), (1, 1, .iconst 0), (2, 3, .putfield 3), (5, 1, .iload_n 3), (6, 1, .i2l), (7, 1, .lconst 0), (8, 3, .ldc2_w 241), (11, 3, .invokestatic 17), (14, 3, .ifCond .eq 14), (17, 1, .aload_n 0), (18, 3, .getfield 178), (21, 1, .aload_n 0), (22, 3, .getfield 77), (25, 3, .if_icmp .lt 5), (28, 1, .iconst (-1)), (29, 1, .ireturn), (30, 1, .aload_n 0), (31, 3, .invokevirtual 243), (34, 1, .aload_n 0), (35, 1, .lload_n 1), (36, 1, .iload_n 3), (37, 3, .invokevirtual 247), (40, 2, .istore 4), (42, 1, .aload_n 0), (43, 3, .invokevirtual 251), (46, 2, .iload 4), (48, 1, .ireturn)], [(3, 0, 9, 0, 0), (17, 2, 128, 3, 0), (77, 0, 9, 11, 0), (178, 0, 9, 31, 0), (241, 4, 0, 0, 10), (243, 1, 161, 0, 9), (247, 1, 167, 2, 9), (251, 1, 162, 0, 9)])
/-- NamesInBagsModel.hold(JI)Z -/
def nm_m169 : px_M := (⟨"NamesInBagsModel", "hold", "(JI)Z"⟩, prog_11_method_43_code, 5, (some .boolean), { frames := 5, cells := 0, slots := 0, locals := 124 }, [(0, 1, .aload_n 0), (1, 1, .iconst 0), (2, 3, .putfield 3), (5, 1, .iload_n 3), (6, 1, .i2l), (7, 1, .lconst 0), (8, 3, .ldc2_w 241), (11, 3, .invokestatic 17), (14, 3, .ifCond .eq 14), (17, 1, .aload_n 0), (18, 3, .getfield 178), (21, 1, .aload_n 0), (22, 3, .getfield 77), (25, 3, .if_icmp .lt 5), (28, 1, .iconst 0), (29, 1, .ireturn), (30, 1, .aload_n 0), (31, 3, .invokevirtual 243), (34, 1, .aload_n 0), (35, 3, .getfield 178), (38, 2, .istore 4), (40, 1, .aload_n 0), (41, 1, .lload_n 1), (42, 1, .iload_n 3), (43, 3, .invokevirtual 247), (46, 1, .iload_n 3), (47, 3, .if_icmp .lt 12), (50, 1, .aload_n 0), (51, 2, .iload 4), (53, 3, .invokevirtual 214), (56, 3, .ifCond .ne 9), (59, 1, .aload_n 0), (60, 3, .invokevirtual 251), (63, 1, .iconst 0), (64, 1, .ireturn), (65, 1, .aload_n 0), (66, 2, .iload 4), (68, 3, .invokevirtual 232), (71, 1, .iconst 1), (72, 1, .ireturn)], [(3, 0, 9, 0, 0), (17, 2, 128, 3, 0), (77, 0, 9, 11, 0), (178, 0, 9, 31, 0), (214, 1, 154, 1, 9), (232, 1, 156, 1, 9), (241, 4, 0, 0, 10), (243, 1, 161, 0, 9), (247, 1, 167, 2, 9), (251, 1, 162, 0, 9)])
/-- NamesInBagsModel.begin()I -/
def nm_m170 : px_M := (⟨"NamesInBagsModel", "begin", "()I"⟩, prog_11_method_44_code, 2, (some .int), { frames := 1, cells := 0, slots := 0, locals := 21 }, [(0, 1, .aload_n 0), (1, 1, .iconst 0), (2, 3, .putfield 3), (5, 1, .aload_n 0), (6, 3, .getfield 178), (9, 1, .istore_n 1), (10, 1, .aload_n 0), (11, 3, .invokevirtual 254), (14, 1, .iload_n 1), (15, 1, .ireturn)], [(3, 0, 9, 0, 0), (178, 0, 9, 31, 0), (254, 1, 157, 0, 9)])
/-- NamesInBagsModel.bag(II)I -/
def nm_m171 : px_M := (⟨"NamesInBagsModel", "bag", "(II)I"⟩, prog_11_method_45_code, 3, (some .int), { frames := 2, cells := 0, slots := 0, locals := 45 }, [(0, 1, .aload_n 0), (1, 1, .iconst 0), (2, 3, .putfield 3), (5, 1, .iload_n 1), (6, 3, .invokestatic 58), (9, 3, .ifCond .eq 35), (12, 1, .iload_n 2), (13, 1, .i2l), (14, 1, .lconst 0), (15, 1, .lconst 1), (16, 3, .invokestatic 17), (19, 3, .ifCond .eq 25), (22, 1, .iload_n 2), (23, 3, .ifCond .ne 12), (26, 1, .aload_n 0), (27, 3, .getfield 67), (30, 1, .iload_n 1), (31, 1, .iaload), (32, 3, .goto 13), (35, 1, .aload_n 0), (36, 3, .getfield 70), (39, 1, .iload_n 1), (40, 1, .iaload), (41, 3, .goto 4), (44, 1, .iconst (-1)), (45, 1, .ireturn)], [(3, 0, 9, 0, 0), (17, 2, 128, 3, 0), (58, 2, 139, 1, 0), (67, 0, 9, 28, 3), (70, 0, 9, 29, 3)])
/-- NamesInBagsModel.sat(I)I -/
def nm_m172 : px_M := (⟨"NamesInBagsModel", "sat", "(I)I"⟩, prog_11_method_46_code, 2, (some .int), { frames := 2, cells := 0, slots := 0, locals := 46 }, [(0, 1, .aload_n 0), (1, 1, .iconst 0), (2, 3, .putfield 3), (5, 1, .aload_n 0), (6, 1, .iload_n 1), (7, 3, .invokevirtual 39), (10, 3, .ifCond .ne 7), (13, 1, .iconst (-1)), (14, 3, .goto 25), (17, 1, .aload_n 0), (18, 3, .getfield 161), (21, 1, .iload_n 1), (22, 1, .iaload), (23, 3, .ifCond .ne 8), (26, 2, .bipush (-2)), (28, 3, .goto 11), (31, 1, .aload_n 0), (32, 3, .getfield 161), (35, 1, .iload_n 1), (36, 1, .iaload), (37, 1, .iconst 1), (38, 1, .isub), (39, 1, .ireturn)], [(3, 0, 9, 0, 0), (39, 1, 132, 1, 9), (161, 0, 9, 30, 3)])
/-- NamesInBagsModel.empties(I)V -/
def nm_m173 : px_M := (⟨"NamesInBagsModel", "empties", "(I)V"⟩, prog_11_method_47_code, 3, none, { frames := 0, cells := 0, slots := 0, locals := 0 }, [(0, 1, .aload_n 0), (1, 3, .getfield 257), (4, 1, .iload_n 1), (5, 1, .iconst 0), (6, 1, .iastore), (7, 1, .iconst 0), (8, 1, .istore_n 2), (9, 1, .iload_n 2), (10, 3, .sipush 8192), (13, 3, .if_icmp .ge 22), (16, 1, .aload_n 0), (17, 3, .getfield 260), (20, 1, .iload_n 1), (21, 3, .sipush 8192), (24, 1, .imul), (25, 1, .iload_n 2), (26, 1, .iadd), (27, 1, .iconst (-1)), (28, 1, .iastore), (29, 3, .iinc 2 1), (32, 3, .goto (-23)), (35, 1, .return_)], [(257, 0, 9, 43, 3), (260, 0, 9, 44, 3)])
/-- NamesInBagsModel.placeOf(JJ)I -/
def nm_m174 : px_M := (⟨"NamesInBagsModel", "placeOf", "(JJ)I"⟩, prog_11_method_48_code, 6, (some .int), { frames := 0, cells := 0, slots := 0, locals := 0 }, [(0, 1, .lload_n 0), (1, 3, .ldc2_w 263), (4, 1, .lmul), (5, 1, .lload_n 2), (6, 3, .ldc2_w 265), (9, 1, .lmul), (10, 1, .ladd), (11, 2, .lstore 4), (13, 2, .lload 4), (15, 2, .lload 4), (17, 2, .bipush 31), (19, 1, .lushr), (20, 1, .lxor), (21, 2, .lstore 4), (23, 2, .lload 4), (25, 3, .ldc2_w 267), (28, 1, .lmul), (29, 2, .lstore 4), (31, 2, .lload 4), (33, 2, .bipush 35), (35, 1, .lushr), (36, 1, .l2i), (37, 3, .sipush 8191), (40, 1, .iand), (41, 1, .ireturn)], [(263, 4, 0, 0, 1000003), (265, 4, 0, 0, 7919), (267, 4, 0, 0, 1000000007)])
/-- NamesInBagsModel.adds(IJ)Z -/
def nm_m175 : px_M := (⟨"NamesInBagsModel", "adds", "(IJ)Z"⟩, prog_11_method_49_code, 10, (some .boolean), { frames := 1, cells := 0, slots := 0, locals := 25 }, [(0, 1, .aload_n 0), (1, 3, .invokevirtual 185), (4, 2, .lstore 4), (6, 1, .aload_n 0), (7, 3, .invokevirtual 193), (10, 2, .lstore 6), (12, 2, .lload 4), (14, 2, .lload 6), (16, 3, .invokestatic 269), (19, 2, .istore 8), (21, 1, .aload_n 0), (22, 3, .getfield 260), (25, 1, .iload_n 1), (26, 3, .sipush 8192), (29, 1, .imul), (30, 2, .iload 8), (32, 1, .iadd), (33, 1, .iaload), (34, 3, .ifCond .lt 76), (37, 1, .iload_n 1), (38, 3, .sipush 3001), (41, 1, .imul), (42, 1, .aload_n 0), (43, 3, .getfield 260), (46, 1, .iload_n 1), (47, 3, .sipush 8192), (50, 1, .imul), (51, 2, .iload 8), (53, 1, .iadd), (54, 1, .iaload), (55, 1, .iadd), (56, 2, .istore 9), (58, 1, .aload_n 0), (59, 3, .getfield 273), (62, 2, .iload 9), (64, 1, .laload), (65, 2, .lload 4), (67, 1, .lcmp), (68, 3, .ifCond .ne 29), (71, 1, .aload_n 0), (72, 3, .getfield 276), (75, 2, .iload 9), (77, 1, .laload), (78, 2, .lload 6), (80, 1, .lcmp), (81, 3, .ifCond .ne 16), (84, 1, .aload_n 0), (85, 3, .getfield 279), (88, 2, .iload 9), (90, 1, .dup2), (91, 1, .laload), (92, 1, .lload_n 2), (93, 1, .ladd), (94, 1, .lastore), (95, 1, .iconst 1), (96, 1, .ireturn), (97, 2, .iload 8), (99, 1, .iconst 1), (100, 1, .iadd), (101, 3, .sipush 8191), (104, 1, .iand), (105, 2, .istore 8), (107, 3, .goto (-86)), (110, 1, .aload_n 0), (111, 3, .getfield 257), (114, 1, .iload_n 1), (115, 1, .iaload), (116, 3, .sipush 3000), (119, 3, .if_icmp .ne 5), (122, 1, .iconst 0), (123, 1, .ireturn), (124, 1, .aload_n 0), (125, 3, .getfield 260), (128, 1, .iload_n 1), (129, 3, .sipush 8192), (132, 1, .imul), (133, 2, .iload 8), (135, 1, .iadd), (136, 1, .aload_n 0), (137, 3, .getfield 257), (140, 1, .iload_n 1), (141, 1, .iaload), (142, 1, .iastore), (143, 1, .iload_n 1), (144, 3, .sipush 3001), (147, 1, .imul), (148, 1, .aload_n 0), (149, 3, .getfield 257), (152, 1, .iload_n 1), (153, 1, .iaload), (154, 1, .iadd), (155, 2, .istore 9), (157, 1, .aload_n 0), (158, 3, .getfield 273), (161, 2, .iload 9), (163, 2, .lload 4), (165, 1, .lastore), (166, 1, .aload_n 0), (167, 3, .getfield 276), (170, 2, .iload 9), (172, 2, .lload 6), (174, 1, .lastore), (175, 1, .aload_n 0), (176, 3, .getfield 279), (179, 2, .iload 9), (181, 1, .lload_n 2), (182, 1, .lastore), (183, 1, .aload_n 0), (184, 3, .getfield 257), (187, 1, .iload_n 1), (188, 1, .dup2), (189, 1, .iaload), (190, 1, .iconst 1), (191, 1, .iadd), (192, 1, .iastore), (193, 1, .iconst 1), (194, 1, .ireturn)], [(185, 1, 158, 0, 9), (193, 1, 159, 0, 9), (257, 0, 9, 43, 3), (260, 0, 9, 44, 3), (269, 2, 174, 2, 0), (273, 0, 9, 40, 3), (276, 0, 9, 41, 3), (279, 0, 9, 42, 3)])
/-- NamesInBagsModel.looksAt(II)V -/
def nm_m176 : px_M := (⟨"NamesInBagsModel", "looksAt", "(II)V"⟩, prog_11_method_50_code, 3, none, { frames := 1, cells := 0, slots := 0, locals := 27 }, [(0, 1, .aload_n 0), (1, 1, .aload_n 0), (2, 3, .getfield 273), (5, 1, .iload_n 1), (6, 3, .sipush 3001), (9, 1, .imul), (10, 1, .iload_n 2), (11, 1, .iadd), (12, 1, .laload), (13, 1, .aload_n 0), (14, 3, .getfield 276), (17, 1, .iload_n 1), (18, 3, .sipush 3001), (21, 1, .imul), (22, 1, .iload_n 2), (23, 1, .iadd), (24, 1, .laload), (25, 3, .invokevirtual 202), (28, 1, .return_)], [(202, 1, 160, 2, 9), (273, 0, 9, 40, 3), (276, 0, 9, 41, 3)])
/-- NamesInBagsModel.opensAll(I)V -/
def nm_m177 : px_M := (⟨"NamesInBagsModel", "opensAll", "(I)V"⟩, prog_11_method_51_code, 3, none, { frames := 4, cells := 0, slots := 0, locals := 96 }, [(0, 1, .aload_n 0), (1, 1, .iconst 0), (2, 3, .invokevirtual 282), (5, 1, .iconst 0), (6, 1, .istore_n 2), (7, 1, .iload_n 2), (8, 1, .aload_n 0), (9, 3, .getfield 257), (12, 1, .iconst 2), (13, 1, .iaload), (14, 3, .if_icmp .ge 36), (17, 1, .aload_n 0), (18, 1, .iconst 2), (19, 1, .iload_n 2), (20, 3, .invokevirtual 285), (23, 1, .aload_n 0), (24, 1, .iload_n 1), (25, 3, .invokevirtual 210), (28, 1, .aload_n 0), (29, 1, .iconst 0), (30, 1, .aload_n 0), (31, 3, .getfield 279), (34, 3, .sipush 6002), (37, 1, .iload_n 2), (38, 1, .iadd), (39, 1, .laload), (40, 3, .invokevirtual 289), (43, 1, .pop), (44, 3, .iinc 2 1), (47, 3, .goto (-40)), (50, 1, .return_)], [(210, 1, 153, 1, 9), (257, 0, 9, 43, 3), (279, 0, 9, 42, 3), (282, 1, 173, 1, 9), (285, 1, 176, 2, 9), (289, 1, 175, 2, 9)])
/-- NamesInBagsModel.drawsFrom(II)Z -/
def nm_m178 : px_M := (⟨"NamesInBagsModel", "drawsFrom", "(II)Z"⟩, prog_11_method_52_code, 8, (some .boolean), { frames := 4, cells := 0, slots := 0, locals := 98 }, [(0, 1, .aload_n 0), (1, 1, .iconst 0), (2, 1, .iload_n 1), (3, 3, .invokevirtual 285), (6, 1, .aload_n 0), (7, 3, .getfield 67), (10, 1, .aload_n 0), (11, 3, .getfield 83), (14, 1, .iload_n 2), (15, 1, .iaload), (16, 1, .iaload), (17, 1, .istore_n 3), (18, 1, .iload_n 3), (19, 3, .invokestatic 170), (22, 2, .istore 4), (24, 1, .aload_n 0), (25, 3, .getfield 279), (28, 1, .iconst 0), (29, 1, .iload_n 1), (30, 1, .iadd), (31, 1, .laload), (32, 2, .lstore 5), (34, 1, .aload_n 0), (35, 1, .dup), (36, 3, .getfield 293), (39, 2, .lload 5), (41, 1, .ladd), (42, 3, .putfield 293), (45, 1, .iconst 0), (46, 2, .istore 7), (48, 2, .iload 7), (50, 1, .aload_n 0), (51, 3, .getfield 14), (54, 3, .if_icmp .ge 72), (57, 1, .iload_n 3), (58, 2, .iload 7), (60, 3, .invokestatic 154), (63, 3, .ifCond .ne 6), (66, 3, .goto 54), (69, 1, .aload_n 0), (70, 1, .iconst 0), (71, 1, .iload_n 1), (72, 3, .invokevirtual 285), (75, 1, .aload_n 0), (76, 1, .dup), (77, 3, .getfield 296), (80, 1, .aload_n 0), (81, 1, .iload_n 2), (82, 2, .iload 7), (84, 3, .invokevirtual 226), (87, 3, .ifCond .eq 7), (90, 1, .lconst 0), (91, 3, .goto 9), (94, 2, .lload 5), (96, 2, .iload 4), (98, 1, .i2l), (99, 1, .ldiv), (100, 1, .ladd), (101, 3, .putfield 296), (104, 1, .aload_n 0), (105, 1, .iconst 1), (106, 2, .lload 5), (108, 2, .iload 4), (110, 1, .i2l), (111, 1, .ldiv), (112, 3, .invokevirtual 289), (115, 3, .ifCond .ne 5), (118, 1, .iconst 0), (119, 1, .ireturn), (120, 3, .iinc 7 1), (123, 3, .goto (-75)), (126, 1, .iconst 1), (127, 1, .ireturn)], [(14, 0, 9, 3, 0), (67, 0, 9, 28, 3), (83, 0, 9, 13, 3), (154, 2, 129, 2, 0), (170, 2, 11, 1, 0), (226, 1, 155, 2, 9), (279, 0, 9, 42, 3), (285, 1, 176, 2, 9), (289, 1, 175, 2, 9), (293, 0, 9, 45, 0), (296, 0, 9, 46, 0)])
/-- NamesInBagsModel.parts(II)Z -/
def nm_m179 : px_M := (⟨"NamesInBagsModel", "parts", "(II)Z"⟩, prog_11_method_53_code, 4, (some .boolean), { frames := 2, cells := 0, slots := 0, locals := 54 }, [(0, 1, .iload_n 1), (1, 1, .iconst 1), (2, 3, .if_icmp .ne 8), (5, 1, .aload_n 0), (6, 1, .iconst 0), (7, 3, .invokevirtual 282), (10, 1, .iconst 0), (11, 1, .istore_n 3), (12, 1, .iload_n 3), (13, 1, .aload_n 0), (14, 3, .getfield 257), (17, 1, .iload_n 1), (18, 1, .iaload), (19, 3, .if_icmp .ge 73), (22, 1, .aload_n 0), (23, 1, .iload_n 1), (24, 1, .iload_n 3), (25, 3, .invokevirtual 285), (28, 1, .aload_n 0), (29, 1, .iload_n 2), (30, 3, .invokevirtual 214), (33, 3, .ifCond .eq 30), (36, 1, .aload_n 0), (37, 1, .iload_n 2), (38, 3, .invokevirtual 232), (41, 1, .aload_n 0), (42, 1, .iconst 2), (43, 1, .aload_n 0), (44, 3, .getfield 279), (47, 1, .iload_n 1), (48, 3, .sipush 3001), (51, 1, .imul), (52, 1, .iload_n 3), (53, 1, .iadd), (54, 1, .laload), (55, 3, .invokevirtual 289), (58, 3, .ifCond .ne 28), (61, 1, .iconst 0), (62, 1, .ireturn), (63, 1, .iload_n 1), (64, 1, .iconst 1), (65, 3, .if_icmp .ne 21), (68, 1, .aload_n 0), (69, 1, .iconst 0), (70, 1, .aload_n 0), (71, 3, .getfield 279), (74, 1, .iload_n 1), (75, 3, .sipush 3001), (78, 1, .imul), (79, 1, .iload_n 3), (80, 1, .iadd), (81, 1, .laload), (82, 3, .invokevirtual 289), (85, 1, .pop), (86, 3, .iinc 3 1), (89, 3, .goto (-77)), (92, 1, .iconst 1), (93, 1, .ireturn)], [(214, 1, 154, 1, 9), (232, 1, 156, 1, 9), (257, 0, 9, 43, 3), (279, 0, 9, 42, 3), (282, 1, 173, 1, 9), (285, 1, 176, 2, 9), (289, 1, 175, 2, 9)])
/-- NamesInBagsModel.goesThrough(I)Z -/
def nm_m180 : px_M := (⟨"NamesInBagsModel", "goesThrough", "(I)Z"⟩, prog_11_method_54_code, 4, (some .boolean), { frames := 5, cells := 0, slots := 0, locals := 125 }, [(0, 1, .aload_n 0), (1, 1, .lconst 0), (2, 3, .putfield 293), (5, 1, .aload_n 0), (6, 1, .lconst 0), (7, 3, .putfield 296), (10, 1, .aload_n 0), (11, 1, .iload_n 1), (12, 3, .invokevirtual 299), (15, 1, .aload_n 0), (16, 1, .iconst 2), (17, 3, .invokevirtual 282), (20, 1, .aload_n 0), (21, 1, .iconst 0), (22, 1, .iload_n 1), (23, 3, .invokevirtual 302), (26, 3, .ifCond .ne 5), (29, 1, .iconst 0), (30, 1, .ireturn), (31, 1, .iconst 1), (32, 1, .istore_n 2), (33, 1, .iload_n 2), (34, 3, .ifCond .eq 70), (37, 1, .aload_n 0), (38, 1, .iconst 1), (39, 3, .invokevirtual 282), (42, 1, .iconst 0), (43, 1, .istore_n 2), (44, 1, .iconst 0), (45, 1, .istore_n 3), (46, 1, .iload_n 3), (47, 1, .aload_n 0), (48, 3, .getfield 257), (51, 1, .iconst 0), (52, 1, .iaload), (53, 3, .if_icmp .ge 36), (56, 1, .aload_n 0), (57, 1, .iconst 0), (58, 1, .iload_n 3), (59, 3, .invokevirtual 285), (62, 1, .aload_n 0), (63, 1, .iload_n 1), (64, 3, .invokevirtual 214), (67, 3, .ifCond .ne 16), (70, 1, .iconst 1), (71, 1, .istore_n 2), (72, 1, .aload_n 0), (73, 1, .iload_n 3), (74, 1, .iload_n 1), (75, 3, .invokevirtual 305), (78, 3, .ifCond .ne 5), (81, 1, .iconst 0), (82, 1, .ireturn), (83, 3, .iinc 3 1), (86, 3, .goto (-40)), (89, 1, .iload_n 2), (90, 3, .ifCond .eq (-57)), (93, 1, .aload_n 0), (94, 1, .iconst 1), (95, 1, .iload_n 1), (96, 3, .invokevirtual 302), (99, 3, .ifCond .ne (-66)), (102, 1, .iconst 0), (103, 1, .ireturn), (104, 1, .iconst 1), (105, 1, .ireturn)], [(214, 1, 154, 1, 9), (257, 0, 9, 43, 3), (282, 1, 173, 1, 9), (285, 1, 176, 2, 9), (293, 0, 9, 45, 0), (296, 0, 9, 46, 0), (299, 1, 177, 1, 9), (302, 1, 179, 2, 9), (305, 1, 178, 2, 9)])
/-- NamesInBagsModel.reaches(I)Z -/
def nm_m181 : px_M := (⟨"NamesInBagsModel", "reaches", "(I)Z"⟩, prog_11_method_55_code, 4, (some .boolean), { frames := 6, cells := 0, slots := 0, locals := 148 }, [(0, 1, .aload_n 0), (1, 3, .getfield 178), (4, 1, .istore_n 2), (5, 1, .aload_n 0), (6, 1, .iconst 2), (7, 3, .invokevirtual 282), (10, 1, .aload_n 0), (11, 1, .iconst 2), (12, 3, .ldc2_w 308), (15, 3, .invokevirtual 289), (18, 1, .pop), (19, 1, .iconst 1), (20, 1, .istore_n 3), (21, 1, .iload_n 2), (22, 1, .iload_n 1), (23, 3, .if_icmp .gt 19), (26, 1, .iload_n 3), (27, 3, .ifCond .eq 15), (30, 1, .aload_n 0), (31, 1, .iload_n 2), (32, 3, .invokevirtual 310), (35, 1, .istore_n 3), (36, 3, .iinc 2 1), (39, 3, .goto (-18)), (42, 1, .iload_n 3), (43, 1, .ireturn)], [(178, 0, 9, 31, 0), (282, 1, 173, 1, 9), (289, 1, 175, 2, 9), (308, 4, 0, 0, 1000000000000), (310, 1, 180, 1, 9)])
/-- NamesInBagsModel.reachesNow(I)Z -/
def nm_m182 : px_M := (⟨"NamesInBagsModel", "reachesNow", "(I)Z"⟩, prog_11_method_56_code, 3, (some .boolean), { frames := 7, cells := 0, slots := 0, locals := 171 }, [(0, 1, .aload_n 0), (1, 3, .invokevirtual 243), (4, 1, .aload_n 0), (5, 1, .iload_n 1), (6, 3, .invokevirtual 313), (9, 1, .istore_n 2), (10, 1, .aload_n 0), (11, 3, .invokevirtual 251), (14, 1, .iload_n 2), (15, 1, .ireturn)], [(243, 1, 161, 0, 9), (251, 1, 162, 0, 9), (313, 1, 181, 1, 9)])
/-- NamesInBagsModel.satAt(II)I -/
def nm_m183 : px_M := (⟨"NamesInBagsModel", "satAt", "(II)I"⟩, prog_11_method_57_code, 5, (some .int), { frames := 2, cells := 0, slots := 0, locals := 49 }, [(0, 1, .aload_n 0), (1, 1, .iconst 2), (2, 1, .iload_n 1), (3, 3, .invokevirtual 285), (6, 1, .iconst 0), (7, 1, .istore_n 3), (8, 1, .iconst 0), (9, 2, .istore 4), (11, 2, .iload 4), (13, 1, .aload_n 0), (14, 3, .getfield 14), (17, 3, .if_icmp .ge 33), (20, 1, .iload_n 3), (21, 1, .aload_n 0), (22, 3, .getfield 161), (25, 2, .iload 4), (27, 1, .iaload), (28, 1, .iload_n 2), (29, 1, .iconst 1), (30, 1, .iadd), (31, 3, .if_icmp .ne 10), (34, 1, .iconst 1), (35, 2, .iload 4), (37, 1, .ishl), (38, 3, .goto 4), (41, 1, .iconst 0), (42, 1, .ior), (43, 1, .istore_n 3), (44, 3, .iinc 4 1), (47, 3, .goto (-36)), (50, 1, .iload_n 3), (51, 1, .ireturn)], [(14, 0, 9, 3, 0), (161, 0, 9, 30, 3), (285, 1, 176, 2, 9)])
/-- NamesInBagsModel.notes(I)V -/
def nm_m184 : px_M := (⟨"NamesInBagsModel", "notes", "(I)V"⟩, prog_11_method_58_code, 3, none, { frames := 3, cells := 0, slots := 0, locals := 73 }, [(0, 1, .aload_n 0), (1, 3, .invokevirtual 243), (4, 1, .iconst 0), (5, 1, .istore_n 2), (6, 1, .iload_n 2), (7, 1, .aload_n 0), (8, 3, .getfield 257), (11, 1, .iconst 2), (12, 1, .iaload), (13, 3, .if_icmp .ge 21), (16, 1, .aload_n 0), (17, 3, .getfield 316), (20, 1, .iload_n 2), (21, 1, .aload_n 0), (22, 1, .iload_n 2), (23, 1, .iload_n 1), (24, 3, .invokevirtual 319), (27, 1, .iastore), (28, 3, .iinc 2 1), (31, 3, .goto (-25)), (34, 1, .aload_n 0), (35, 3, .invokevirtual 251), (38, 1, .return_)], [(243, 1, 161, 0, 9), (251, 1, 162, 0, 9), (257, 0, 9, 43, 3), (316, 0, 9, 47, 3), (319, 1, 183, 2, 9)])
/-- NamesInBagsModel.isLeft(I)Z -/
def nm_m185 : px_M := (⟨"NamesInBagsModel", "isLeft", "(I)Z"⟩, prog_11_method_59_code, 2, (some .boolean), { frames := 1, cells := 0, slots := 0, locals := 25 }, [(0, 1, .iload_n 1), (1, 1, .i2l), (2, 1, .aload_n 0), (3, 3, .getfield 178), (6, 1, .i2l), (7, 1, .aload_n 0), (8, 3, .getfield 77), (11, 1, .iconst 1), (12, 1, .isub), (13, 1, .i2l), (14, 3, .invokestatic 17), (17, 1, .ireturn)], [(17, 2, 128, 3, 0), (77, 0, 9, 11, 0), (178, 0, 9, 31, 0)])
/-- NamesInBagsModel.endPart(I)J -/
def nm_m186 : px_M := (⟨"NamesInBagsModel", "endPart", "(I)J"⟩, prog_11_method_60_code, 2, (some .long), { frames := 0, cells := 0, slots := 0, locals := 0 }, [(0, 1, .aload_n 0), (1, 3, .getfield 279), (4, 3, .sipush 6002), (7, 1, .iload_n 1), (8, 1, .iadd), (9, 1, .laload), (10, 1, .lreturn)], [(279, 0, 9, 42, 3)])
/-- NamesInBagsModel.anyOf(I)J -/
def nm_m187 : px_M := (⟨"NamesInBagsModel", "anyOf", "(I)J"⟩, prog_11_method_61_code, 5, (some .long), { frames := 1, cells := 0, slots := 0, locals := 21 }, [(0, 1, .lconst 0), (1, 1, .lstore_n 2), (2, 1, .iconst 0), (3, 2, .istore 4), (5, 2, .iload 4), (7, 1, .aload_n 0), (8, 3, .getfield 257), (11, 1, .iconst 2), (12, 1, .iaload), (13, 3, .if_icmp .ge 34), (16, 1, .lload_n 2), (17, 1, .aload_n 0), (18, 3, .getfield 316), (21, 2, .iload 4), (23, 1, .iaload), (24, 1, .iload_n 1), (25, 1, .iand), (26, 3, .ifCond .eq 12), (29, 1, .aload_n 0), (30, 2, .iload 4), (32, 3, .invokevirtual 322), (35, 3, .goto 4), (38, 1, .lconst 0), (39, 1, .ladd), (40, 1, .lstore_n 2), (41, 3, .iinc 4 1), (44, 3, .goto (-39)), (47, 1, .lload_n 2), (48, 1, .lreturn)], [(257, 0, 9, 43, 3), (316, 0, 9, 47, 3), (322, 1, 186, 1, 9)])
/-- NamesInBagsModel.asks(I)Z -/
def nm_m188 : px_M := (⟨"NamesInBagsModel", "asks", "(I)Z"⟩, prog_11_method_62_code, 2, (some .boolean), { frames := 8, cells := 0, slots := 0, locals := 193 }, [(0, 1, .aload_n 0), (1, 1, .iload_n 1), (2, 3, .invokevirtual 326), (5, 3, .ifCond .ne 5), (8, 1, .iconst 0), (9, 1, .ireturn), (10, 1, .aload_n 0), (11, 1, .iload_n 1), (12, 3, .invokevirtual 329), (15, 1, .iconst 1), (16, 1, .ireturn)], [(326, 1, 182, 1, 9), (329, 1, 184, 1, 9)])
/-- NamesInBagsModel.chance(II)I -/
def nm_m189 : px_M := (⟨"NamesInBagsModel", "chance", "(II)I"⟩, prog_11_method_63_code, 3, (some .int), { frames := 9, cells := 0, slots := 0, locals := 214 }, [(0, 1, .aload_n 0), (1, 1, .iconst 0), (2, 3, .putfield 3), (5, 1, .aload_n 0), (6, 1, .iload_n 1), (7, 3, .invokevirtual 39), (10, 3, .ifCond .eq 11), (13, 1, .aload_n 0), (14, 1, .iload_n 2), (15, 3, .invokevirtual 332), (18, 3, .ifCond .ne 5), (21, 1, .iconst (-1)), (22, 1, .ireturn), (23, 1, .aload_n 0), (24, 1, .iload_n 2), (25, 3, .invokevirtual 335), (28, 3, .ifCond .ne 6), (31, 2, .bipush (-3)), (33, 1, .ireturn), (34, 1, .aload_n 0), (35, 1, .iconst 0), (36, 3, .putfield 11), (39, 1, .aload_n 0), (40, 1, .aload_n 0), (41, 1, .iconst 1), (42, 1, .iload_n 1), (43, 1, .ishl), (44, 3, .invokevirtual 338), (47, 3, .invokevirtual 235), (50, 1, .iconst 0), (51, 1, .ireturn)], [(3, 0, 9, 0, 0), (11, 0, 9, 1, 0), (39, 1, 132, 1, 9), (235, 1, 131, 1, 9), (332, 1, 185, 1, 9), (335, 1, 188, 1, 9), (338, 1, 187, 1, 9)])
/-- NamesInBagsModel.each(I)I -/
def nm_m190 : px_M := (⟨"NamesInBagsModel", "each", "(I)I"⟩, prog_11_method_64_code, 3, (some .int), { frames := 9, cells := 0, slots := 0, locals := 214 }, [(0, 1, .aload_n 0), (1, 1, .iconst 0), (2, 3, .putfield 3), (5, 1, .aload_n 0), (6, 1, .iload_n 1), (7, 3, .invokevirtual 332), (10, 3, .ifCond .ne 5), (13, 1, .iconst (-1)), (14, 1, .ireturn), (15, 1, .aload_n 0), (16, 1, .iload_n 1), (17, 3, .invokevirtual 335), (20, 3, .ifCond .ne 6), (23, 2, .bipush (-3)), (25, 1, .ireturn), (26, 1, .aload_n 0), (27, 1, .iconst 0), (28, 3, .putfield 11), (31, 1, .iconst 0), (32, 1, .istore_n 2), (33, 1, .iload_n 2), (34, 1, .aload_n 0), (35, 3, .getfield 14), (38, 3, .if_icmp .ge 20), (41, 1, .aload_n 0), (42, 1, .aload_n 0), (43, 1, .iconst 1), (44, 1, .iload_n 2), (45, 1, .ishl), (46, 3, .invokevirtual 338), (49, 3, .invokevirtual 235), (52, 3, .iinc 2 1), (55, 3, .goto (-22)), (58, 1, .iconst 0), (59, 1, .ireturn)], [(3, 0, 9, 0, 0), (11, 0, 9, 1, 0), (14, 0, 9, 3, 0), (235, 1, 131, 1, 9), (332, 1, 185, 1, 9), (335, 1, 188, 1, 9), (338, 1, 187, 1, 9)])
/-- NamesInBagsModel.ever(I)I -/
def nm_m191 : px_M := (⟨"NamesInBagsModel", "ever", "(I)I"⟩, prog_11_method_65_code, 6, (some .int), { frames := 8, cells := 0, slots := 0, locals := 193 }, [(0, 1, .aload_n 0), (1, 1, .iconst 0), (2, 3, .putfield 3), (5, 1, .aload_n 0), (6, 1, .iload_n 1), (7, 3, .invokevirtual 39), (10, 3, .ifCond .eq 14), (13, 1, .aload_n 0), (14, 3, .getfield 178), (17, 1, .aload_n 0), (18, 3, .getfield 77), (21, 3, .if_icmp .lt 5), (24, 1, .iconst (-1)), (25, 1, .ireturn), (26, 1, .aload_n 0), (27, 3, .getfield 178), (30, 1, .istore_n 2), (31, 1, .aload_n 0), (32, 1, .aload_n 0), (33, 3, .getfield 77), (36, 1, .iconst 1), (37, 1, .isub), (38, 3, .invokevirtual 326), (41, 3, .ifCond .ne 6), (44, 2, .bipush (-3)), (46, 1, .ireturn), (47, 1, .aload_n 0), (48, 3, .invokevirtual 243), (51, 1, .lconst 0), (52, 1, .lstore_n 3), (53, 1, .iconst 0), (54, 2, .istore 5), (56, 2, .iload 5), (58, 1, .aload_n 0), (59, 3, .getfield 257), (62, 1, .iconst 2), (63, 1, .iaload), (64, 3, .if_icmp .ge 39), (67, 1, .aload_n 0), (68, 1, .iconst 2), (69, 2, .iload 5), (71, 3, .invokevirtual 285), (74, 1, .lload_n 3), (75, 1, .aload_n 0), (76, 3, .getfield 161), (79, 1, .iload_n 1), (80, 1, .iaload), (81, 1, .iload_n 2), (82, 3, .if_icmp .le 12), (85, 1, .aload_n 0), (86, 2, .iload 5), (88, 3, .invokevirtual 322), (91, 3, .goto 4), (94, 1, .lconst 0), (95, 1, .ladd), (96, 1, .lstore_n 3), (97, 3, .iinc 5 1), (100, 3, .goto (-44)), (103, 1, .aload_n 0), (104, 3, .invokevirtual 251), (107, 1, .aload_n 0), (108, 1, .iconst 0), (109, 3, .putfield 11), (112, 1, .aload_n 0), (113, 1, .lload_n 3), (114, 3, .invokevirtual 235), (117, 1, .iconst 0), (118, 1, .ireturn)], [(3, 0, 9, 0, 0), (11, 0, 9, 1, 0), (39, 1, 132, 1, 9), (77, 0, 9, 11, 0), (161, 0, 9, 30, 3), (178, 0, 9, 31, 0), (235, 1, 131, 1, 9), (243, 1, 161, 0, 9), (251, 1, 162, 0, 9), (257, 0, 9, 43, 3), (285, 1, 176, 2, 9), (322, 1, 186, 1, 9), (326, 1, 182, 1, 9)])
/-- NamesInBagsModel.filled(I)J -/
def nm_m192 : px_M := (⟨"NamesInBagsModel", "filled", "(I)J"⟩, prog_11_method_66_code, 5, (some .long), { frames := 1, cells := 0, slots := 0, locals := 21 }, [(0, 1, .lconst 0), (1, 1, .lstore_n 2), (2, 1, .iconst 0), (3, 2, .istore 4), (5, 2, .iload 4), (7, 1, .aload_n 0), (8, 3, .getfield 257), (11, 1, .iconst 2), (12, 1, .iaload), (13, 3, .if_icmp .ge 36), (16, 1, .lload_n 2), (17, 1, .aload_n 0), (18, 3, .getfield 316), (21, 2, .iload 4), (23, 1, .iaload), (24, 3, .invokestatic 170), (27, 1, .iload_n 1), (28, 3, .if_icmp .ne 12), (31, 1, .aload_n 0), (32, 2, .iload 4), (34, 3, .invokevirtual 322), (37, 3, .goto 4), (40, 1, .lconst 0), (41, 1, .ladd), (42, 1, .lstore_n 2), (43, 3, .iinc 4 1), (46, 3, .goto (-41)), (49, 1, .lload_n 2), (50, 1, .lreturn)], [(170, 2, 11, 1, 0), (257, 0, 9, 43, 3), (316, 0, 9, 47, 3), (322, 1, 186, 1, 9)])
/-- NamesInBagsModel.empty(I)I -/
def nm_m193 : px_M := (⟨"NamesInBagsModel", "empty", "(I)I"⟩, prog_11_method_67_code, 5, (some .int), { frames := 9, cells := 0, slots := 0, locals := 214 }, [(0, 1, .aload_n 0), (1, 1, .iconst 0), (2, 3, .putfield 3), (5, 1, .aload_n 0), (6, 1, .iload_n 1), (7, 3, .invokevirtual 332), (10, 3, .ifCond .ne 5), (13, 1, .iconst (-1)), (14, 1, .ireturn), (15, 1, .aload_n 0), (16, 1, .iload_n 1), (17, 3, .invokevirtual 335), (20, 3, .ifCond .ne 6), (23, 2, .bipush (-3)), (25, 1, .ireturn), (26, 1, .aload_n 0), (27, 1, .iconst 0), (28, 3, .putfield 11), (31, 1, .lconst 0), (32, 1, .lstore_n 2), (33, 1, .iconst 0), (34, 2, .istore 4), (36, 2, .iload 4), (38, 1, .aload_n 0), (39, 3, .getfield 86), (42, 1, .iload_n 1), (43, 1, .iaload), (44, 3, .if_icmp .ge 18), (47, 1, .lload_n 2), (48, 1, .aload_n 0), (49, 2, .iload 4), (51, 3, .invokevirtual 341), (54, 1, .ladd), (55, 1, .lstore_n 2), (56, 3, .iinc 4 1), (59, 3, .goto (-23)), (62, 1, .aload_n 0), (63, 1, .lload_n 2), (64, 3, .invokevirtual 235), (67, 1, .iconst 0), (68, 2, .istore 4), (70, 2, .iload 4), (72, 1, .aload_n 0), (73, 3, .getfield 86), (76, 1, .iload_n 1), (77, 1, .iaload), (78, 3, .if_icmp .gt 19), (81, 1, .aload_n 0), (82, 1, .aload_n 0), (83, 2, .iload 4), (85, 3, .invokevirtual 341), (88, 3, .invokevirtual 235), (91, 3, .iinc 4 1), (94, 3, .goto (-24)), (97, 1, .iconst 0), (98, 1, .ireturn)], [(3, 0, 9, 0, 0), (11, 0, 9, 1, 0), (86, 0, 9, 14, 3), (235, 1, 131, 1, 9), (332, 1, 185, 1, 9), (335, 1, 188, 1, 9), (341, 1, 192, 1, 9)])
/-- NamesInBagsModel.vain(I)I -/
def nm_m194 : px_M := (⟨"NamesInBagsModel", "vain", "(I)I"⟩, prog_11_method_68_code, 2, (some .int), { frames := 9, cells := 0, slots := 0, locals := 214 }, [(0, 1, .aload_n 0), (1, 1, .iconst 0), (2, 3, .putfield 3), (5, 1, .aload_n 0), (6, 1, .iload_n 1), (7, 3, .invokevirtual 332), (10, 3, .ifCond .ne 5), (13, 1, .iconst (-1)), (14, 1, .ireturn), (15, 1, .aload_n 0), (16, 1, .iload_n 1), (17, 3, .invokevirtual 335), (20, 3, .ifCond .ne 6), (23, 2, .bipush (-3)), (25, 1, .ireturn), (26, 1, .aload_n 0), (27, 1, .iconst 0), (28, 3, .putfield 11), (31, 1, .aload_n 0), (32, 1, .aload_n 0), (33, 3, .getfield 293), (36, 3, .invokevirtual 235), (39, 1, .aload_n 0), (40, 1, .aload_n 0), (41, 3, .getfield 296), (44, 3, .invokevirtual 235), (47, 1, .iconst 0), (48, 1, .ireturn)], [(3, 0, 9, 0, 0), (11, 0, 9, 1, 0), (235, 1, 131, 1, 9), (293, 0, 9, 45, 0), (296, 0, 9, 46, 0), (332, 1, 185, 1, 9), (335, 1, 188, 1, 9)])
/-- NamesInBagsModel.housed(I)I -/
def nm_m195 : px_M := (⟨"NamesInBagsModel", "housed", "(I)I"⟩, prog_11_method_69_code, 4, (some .int), { frames := 0, cells := 0, slots := 0, locals := 0 }, [(0, 1, .iconst 0), (1, 1, .istore_n 2), (2, 1, .iconst 0), (3, 1, .istore_n 3), (4, 1, .iload_n 3), (5, 1, .aload_n 0), (6, 3, .getfield 14), (9, 3, .if_icmp .ge 29), (12, 1, .iload_n 2), (13, 1, .aload_n 0), (14, 3, .getfield 23), (17, 1, .iload_n 3), (18, 1, .iaload), (19, 1, .iload_n 1), (20, 3, .if_icmp .ne 9), (23, 1, .iconst 1), (24, 1, .iload_n 3), (25, 1, .ishl), (26, 3, .goto 4), (29, 1, .iconst 0), (30, 1, .ior), (31, 1, .istore_n 2), (32, 3, .iinc 3 1), (35, 3, .goto (-31)), (38, 1, .iload_n 2), (39, 1, .ireturn)], [(14, 0, 9, 3, 0), (23, 0, 9, 4, 3)])
/-- NamesInBagsModel.house(II)I -/
def nm_m196 : px_M := (⟨"NamesInBagsModel", "house", "(II)I"⟩, prog_11_method_70_code, 6, (some .int), { frames := 9, cells := 0, slots := 0, locals := 214 }, [(0, 1, .aload_n 0), (1, 1, .iconst 0), (2, 3, .putfield 3), (5, 1, .iload_n 1), (6, 1, .i2l), (7, 1, .lconst 0), (8, 3, .ldc2_w 21), (11, 3, .invokestatic 17), (14, 3, .ifCond .eq 11), (17, 1, .aload_n 0), (18, 1, .iload_n 2), (19, 3, .invokevirtual 332), (22, 3, .ifCond .ne 5), (25, 1, .iconst (-1)), (26, 1, .ireturn), (27, 1, .aload_n 0), (28, 1, .iload_n 2), (29, 3, .invokevirtual 335), (32, 3, .ifCond .ne 6), (35, 2, .bipush (-3)), (37, 1, .ireturn), (38, 1, .lconst 0), (39, 1, .lstore_n 3), (40, 1, .iconst 0), (41, 2, .istore 5), (43, 2, .iload 5), (45, 1, .aload_n 0), (46, 3, .getfield 14), (49, 3, .if_icmp .ge 35), (52, 1, .lload_n 3), (53, 1, .aload_n 0), (54, 3, .getfield 23), (57, 2, .iload 5), (59, 1, .iaload), (60, 1, .iload_n 1), (61, 3, .if_icmp .ne 14), (64, 1, .aload_n 0), (65, 1, .iconst 1), (66, 2, .iload 5), (68, 1, .ishl), (69, 3, .invokevirtual 338), (72, 3, .goto 4), (75, 1, .lconst 0), (76, 1, .ladd), (77, 1, .lstore_n 3), (78, 3, .iinc 5 1), (81, 3, .goto (-38)), (84, 1, .aload_n 0), (85, 1, .iconst 0), (86, 3, .putfield 11), (89, 1, .aload_n 0), (90, 1, .aload_n 0), (91, 1, .aload_n 0), (92, 1, .iload_n 1), (93, 3, .invokevirtual 344), (96, 3, .invokevirtual 338), (99, 3, .invokevirtual 235), (102, 1, .aload_n 0), (103, 1, .lload_n 3), (104, 3, .invokevirtual 235), (107, 1, .iconst 0), (108, 1, .ireturn)], [(3, 0, 9, 0, 0), (11, 0, 9, 1, 0), (14, 0, 9, 3, 0), (17, 2, 128, 3, 0), (21, 4, 0, 0, 5), (23, 0, 9, 4, 3), (235, 1, 131, 1, 9), (332, 1, 185, 1, 9), (335, 1, 188, 1, 9), (338, 1, 187, 1, 9), (344, 1, 195, 1, 9)])
/-- NamesInBagsModel.ways(I)I -/
def nm_m197 : px_M := (⟨"NamesInBagsModel", "ways", "(I)I"⟩, prog_11_method_71_code, 2, (some .int), { frames := 8, cells := 0, slots := 0, locals := 193 }, [(0, 1, .aload_n 0), (1, 1, .iconst 0), (2, 3, .putfield 3), (5, 1, .aload_n 0), (6, 1, .iload_n 1), (7, 3, .invokevirtual 332), (10, 3, .ifCond .ne 5), (13, 1, .iconst (-1)), (14, 1, .ireturn), (15, 1, .aload_n 0), (16, 1, .iload_n 1), (17, 3, .invokevirtual 326), (20, 3, .ifCond .eq 12), (23, 1, .aload_n 0), (24, 3, .getfield 257), (27, 1, .iconst 2), (28, 1, .iaload), (29, 3, .goto 5), (32, 2, .bipush (-3)), (34, 1, .ireturn)], [(3, 0, 9, 0, 0), (257, 0, 9, 43, 3), (326, 1, 182, 1, 9), (332, 1, 185, 1, 9)])
/-- NamesInBagsModel.sureBits()I -/
def nm_m198 : px_M := (⟨"NamesInBagsModel", "sureBits", "()I"⟩, prog_11_method_72_code, 3, (some .int), { frames := 0, cells := 0, slots := 0, locals := 0 }, [(0, 1, .iconst 1), (1, 1, .aload_n 0), (2, 3, .getfield 14), (5, 1, .ishl), (6, 1, .iconst 1), (7, 1, .isub), (8, 1, .istore_n 1), (9, 1, .iconst 0), (10, 1, .istore_n 2), (11, 1, .iload_n 2), (12, 1, .aload_n 0), (13, 3, .getfield 257), (16, 1, .iconst 2), (17, 1, .iaload), (18, 3, .if_icmp .ge 18), (21, 1, .iload_n 1), (22, 1, .aload_n 0), (23, 3, .getfield 316), (26, 1, .iload_n 2), (27, 1, .iaload), (28, 1, .iand), (29, 1, .istore_n 1), (30, 3, .iinc 2 1), (33, 3, .goto (-22)), (36, 1, .iload_n 1), (37, 1, .ireturn)], [(14, 0, 9, 3, 0), (257, 0, 9, 43, 3), (316, 0, 9, 47, 3)])
/-- NamesInBagsModel.someBits()I -/
def nm_m199 : px_M := (⟨"NamesInBagsModel", "someBits", "()I"⟩, prog_11_method_73_code, 3, (some .int), { frames := 0, cells := 0, slots := 0, locals := 0 }, [(0, 1, .iconst 0), (1, 1, .istore_n 1), (2, 1, .iconst 0), (3, 1, .istore_n 2), (4, 1, .iload_n 2), (5, 1, .aload_n 0), (6, 3, .getfield 257), (9, 1, .iconst 2), (10, 1, .iaload), (11, 3, .if_icmp .ge 18), (14, 1, .iload_n 1), (15, 1, .aload_n 0), (16, 3, .getfield 316), (19, 1, .iload_n 2), (20, 1, .iaload), (21, 1, .ior), (22, 1, .istore_n 1), (23, 3, .iinc 2 1), (26, 3, .goto (-22)), (29, 1, .iload_n 1), (30, 1, .ireturn)], [(257, 0, 9, 43, 3), (316, 0, 9, 47, 3)])
/-- NamesInBagsModel.sure(II)I -/
def nm_m200 : px_M := (⟨"NamesInBagsModel", "sure", "(II)I"⟩, prog_11_method_74_code, 3, (some .int), { frames := 9, cells := 0, slots := 0, locals := 214 }, [(0, 1, .aload_n 0), (1, 1, .iconst 0), (2, 3, .putfield 3), (5, 1, .aload_n 0), (6, 1, .iload_n 1), (7, 3, .invokevirtual 332), (10, 3, .ifCond .eq 13), (13, 1, .iload_n 2), (14, 1, .i2l), (15, 1, .lconst 0), (16, 1, .lconst 1), (17, 3, .invokestatic 17), (20, 3, .ifCond .ne 5), (23, 1, .iconst (-1)), (24, 1, .ireturn), (25, 1, .aload_n 0), (26, 1, .iload_n 1), (27, 3, .invokevirtual 335), (30, 3, .ifCond .ne 6), (33, 2, .bipush (-3)), (35, 1, .ireturn), (36, 1, .iload_n 2), (37, 3, .ifCond .ne 10), (40, 1, .aload_n 0), (41, 3, .invokevirtual 347), (44, 3, .goto 7), (47, 1, .aload_n 0), (48, 3, .invokevirtual 351), (51, 1, .ireturn)], [(3, 0, 9, 0, 0), (17, 2, 128, 3, 0), (332, 1, 185, 1, 9), (335, 1, 188, 1, 9), (347, 1, 198, 0, 9), (351, 1, 199, 0, 9)])
/-- NamesInBagsModel.sit(II)I -/
def nm_m201 : px_M := (⟨"NamesInBagsModel", "sit", "(II)I"⟩, prog_11_method_75_code, 7, (some .int), { frames := 9, cells := 0, slots := 0, locals := 214 }, [(0, 1, .aload_n 0), (1, 1, .iconst 0), (2, 3, .putfield 3), (5, 1, .aload_n 0), (6, 1, .iload_n 1), (7, 3, .invokevirtual 332), (10, 3, .ifCond .eq 11), (13, 1, .aload_n 0), (14, 1, .iload_n 2), (15, 3, .invokevirtual 61), (18, 3, .ifCond .ne 5), (21, 1, .iconst (-1)), (22, 1, .ireturn), (23, 1, .aload_n 0), (24, 1, .iload_n 1), (25, 3, .invokevirtual 335), (28, 3, .ifCond .ne 6), (31, 2, .bipush (-3)), (33, 1, .ireturn), (34, 1, .lconst 0), (35, 1, .lstore_n 3), (36, 1, .iconst 0), (37, 2, .istore 5), (39, 1, .iconst 0), (40, 2, .istore 6), (42, 2, .iload 6), (44, 1, .aload_n 0), (45, 3, .getfield 257), (48, 1, .iconst 2), (49, 1, .iaload), (50, 3, .if_icmp .ge 32), (53, 1, .aload_n 0), (54, 3, .getfield 316), (57, 2, .iload 6), (59, 1, .iaload), (60, 1, .iload_n 2), (61, 3, .if_icmp .ne 15), (64, 1, .iconst 1), (65, 2, .istore 5), (67, 1, .lload_n 3), (68, 1, .aload_n 0), (69, 2, .iload 6), (71, 3, .invokevirtual 322), (74, 1, .ladd), (75, 1, .lstore_n 3), (76, 3, .iinc 6 1), (79, 3, .goto (-37)), (82, 1, .aload_n 0), (83, 1, .iconst 0), (84, 3, .putfield 11), (87, 1, .aload_n 0), (88, 1, .lload_n 3), (89, 3, .invokevirtual 235), (92, 2, .iload 5), (94, 1, .ireturn)], [(3, 0, 9, 0, 0), (11, 0, 9, 1, 0), (61, 1, 133, 1, 9), (235, 1, 131, 1, 9), (257, 0, 9, 43, 3), (316, 0, 9, 47, 3), (322, 1, 186, 1, 9), (332, 1, 185, 1, 9), (335, 1, 188, 1, 9)])
/-- NamesInBagsModel.known()I -/
def nm_m202 : px_M := (⟨"NamesInBagsModel", "known", "()I"⟩, prog_11_method_76_code, 2, (some .int), { frames := 9, cells := 0, slots := 0, locals := 214 }, [(0, 1, .aload_n 0), (1, 1, .iconst 0), (2, 3, .putfield 3), (5, 1, .aload_n 0), (6, 3, .getfield 178), (9, 1, .aload_n 0), (10, 3, .getfield 77), (13, 3, .if_icmp .lt 5), (16, 1, .iconst (-1)), (17, 1, .ireturn), (18, 1, .aload_n 0), (19, 3, .getfield 178), (22, 1, .istore_n 1), (23, 1, .iload_n 1), (24, 1, .aload_n 0), (25, 3, .getfield 77), (28, 3, .if_icmp .ge 43), (31, 1, .aload_n 0), (32, 1, .iload_n 1), (33, 3, .invokevirtual 335), (36, 3, .ifCond .ne 6), (39, 2, .bipush (-3)), (41, 1, .ireturn), (42, 1, .aload_n 0), (43, 3, .invokevirtual 347), (46, 3, .ifCond .eq 19), (49, 1, .aload_n 0), (50, 1, .iconst 0), (51, 3, .putfield 11), (54, 1, .aload_n 0), (55, 1, .aload_n 0), (56, 3, .invokevirtual 347), (59, 1, .i2l), (60, 3, .invokevirtual 235), (63, 1, .iload_n 1), (64, 1, .ireturn), (65, 3, .iinc 1 1), (68, 3, .goto (-45)), (71, 2, .bipush (-2)), (73, 1, .ireturn)], [(3, 0, 9, 0, 0), (11, 0, 9, 1, 0), (77, 0, 9, 11, 0), (178, 0, 9, 31, 0), (235, 1, 131, 1, 9), (335, 1, 188, 1, 9), (347, 1, 198, 0, 9)])
/-- NamesInBagsModel.tries(III)Z -/
def nm_m203 : px_M := (⟨"NamesInBagsModel", "tries", "(III)Z"⟩, prog_11_method_77_code, 5, (some .boolean), { frames := 7, cells := 0, slots := 0, locals := 171 }, [(0, 1, .aload_n 0), (1, 3, .invokevirtual 243), (4, 1, .aload_n 0), (5, 1, .aload_n 0), (6, 3, .getfield 64), (9, 1, .iload_n 1), (10, 1, .iaload), (11, 3, .putfield 354), (14, 1, .aload_n 0), (15, 3, .getfield 64), (18, 1, .iload_n 1), (19, 1, .iload_n 2), (20, 1, .iastore), (21, 1, .aload_n 0), (22, 3, .invokevirtual 254), (25, 1, .aload_n 0), (26, 1, .iload_n 3), (27, 3, .invokevirtual 313), (30, 2, .istore 4), (32, 1, .aload_n 0), (33, 3, .getfield 64), (36, 1, .iload_n 1), (37, 1, .aload_n 0), (38, 3, .getfield 354), (41, 1, .iastore), (42, 1, .aload_n 0), (43, 3, .invokevirtual 251), (46, 2, .iload 4), (48, 3, .ifCond .eq 8), (51, 1, .aload_n 0), (52, 1, .iload_n 3), (53, 3, .invokevirtual 329), (56, 2, .iload 4), (58, 1, .ireturn)], [(64, 0, 9, 9, 3), (243, 1, 161, 0, 9), (251, 1, 162, 0, 9), (254, 1, 157, 0, 9), (313, 1, 181, 1, 9), (329, 1, 184, 1, 9), (354, 0, 9, 48, 0)])
/-- NamesInBagsModel.isPacking(III)Z -/
def nm_m204 : px_M := (⟨"NamesInBagsModel", "isPacking", "(III)Z"⟩, prog_11_method_78_code, 4, (some .boolean), { frames := 2, cells := 0, slots := 0, locals := 46 }, [(0, 1, .iload_n 1), (1, 3, .invokestatic 58), (4, 3, .ifCond .eq 40), (7, 1, .aload_n 0), (8, 1, .iload_n 2), (9, 3, .invokevirtual 61), (12, 3, .ifCond .eq 32), (15, 1, .iload_n 2), (16, 3, .invokestatic 170), (19, 2, .bipush 6), (21, 3, .if_icmp .gt 23), (24, 1, .iload_n 3), (25, 1, .i2l), (26, 1, .lconst 0), (27, 1, .aload_n 0), (28, 3, .getfield 77), (31, 1, .iconst 1), (32, 1, .isub), (33, 1, .i2l), (34, 3, .invokestatic 17), (37, 3, .ifCond .eq 7), (40, 1, .iconst 1), (41, 3, .goto 4), (44, 1, .iconst 0), (45, 1, .ireturn)], [(17, 2, 128, 3, 0), (58, 2, 139, 1, 0), (61, 1, 133, 1, 9), (77, 0, 9, 11, 0), (170, 2, 11, 1, 0)])
/-- NamesInBagsModel.packing(III)I -/
def nm_m205 : px_M := (⟨"NamesInBagsModel", "packing", "(III)I"⟩, prog_11_method_79_code, 4, (some .int), { frames := 0, cells := 0, slots := 0, locals := 0 }, [(0, 1, .aload_n 0), (1, 3, .getfield 64), (4, 1, .iload_n 1), (5, 1, .iaload), (6, 1, .iload_n 2), (7, 1, .iconst (-1)), (8, 1, .ixor), (9, 1, .iand), (10, 1, .iload_n 3), (11, 1, .ior), (12, 1, .ireturn)], [(64, 0, 9, 9, 3)])
/-- NamesInBagsModel.best(IIIII)I -/
def nm_m206 : px_M := (⟨"NamesInBagsModel", "best", "(IIIII)I"⟩, prog_11_method_80_code, 15, (some .int), { frames := 8, cells := 0, slots := 0, locals := 195 }, [(0, 1, .aload_n 0), (1, 1, .iconst 0), (2, 3, .putfield 3), (5, 1, .aload_n 0), (6, 1, .iload_n 1), (7, 1, .iload_n 2), (8, 2, .iload 4), (10, 3, .invokevirtual 357), (13, 3, .ifCond .eq 22), (16, 1, .aload_n 0), (17, 1, .iload_n 3), (18, 3, .invokevirtual 39), (21, 3, .ifCond .eq 14), (24, 2, .iload 5), (26, 1, .i2l), (27, 1, .lconst 0), (28, 1, .lconst 1), (29, 3, .invokestatic 17), (32, 3, .ifCond .ne 5), (35, 1, .iconst (-1)), (36, 1, .ireturn), (37, 1, .iconst (-1)), (38, 2, .istore 6), (40, 1, .lconst 0), (41, 2, .lstore 7), (43, 1, .iconst 0), (44, 2, .istore 9), (46, 2, .iload 9), (48, 1, .iload_n 2), (49, 3, .if_icmp .gt 142), (52, 2, .iload 9), (54, 1, .iload_n 2), (55, 1, .iconst (-1)), (56, 1, .ixor), (57, 1, .iand), (58, 3, .ifCond .eq 6), (61, 3, .goto 124), (64, 1, .aload_n 0), (65, 1, .iload_n 1), (66, 1, .iload_n 2), (67, 2, .iload 9), (69, 3, .invokevirtual 360), (72, 2, .istore 10), (74, 1, .aload_n 0), (75, 1, .iload_n 1), (76, 2, .iload 10), (78, 2, .iload 4), (80, 3, .invokevirtual 364), (83, 3, .ifCond .ne 6), (86, 2, .bipush (-3)), (88, 1, .ireturn), (89, 1, .aload_n 0), (90, 1, .iconst 1), (91, 1, .iload_n 3), (92, 1, .ishl), (93, 3, .invokevirtual 338), (96, 2, .lstore 11), (98, 2, .iload 5), (100, 3, .ifCond .ne 19), (103, 2, .lload 11), (105, 2, .lload 7), (107, 1, .lcmp), (108, 3, .ifCond .le 7), (111, 1, .iconst 1), (112, 3, .goto 20), (115, 1, .iconst 0), (116, 3, .goto 16), (119, 2, .lload 11), (121, 2, .lload 7), (123, 1, .lcmp), (124, 3, .ifCond .ge 7), (127, 1, .iconst 1), (128, 3, .goto 4), (131, 1, .iconst 0), (132, 2, .istore 13), (134, 2, .lload 11), (136, 2, .lload 7), (138, 1, .lcmp), (139, 3, .ifCond .ne 20), (142, 2, .iload 10), (144, 3, .invokestatic 170), (147, 2, .iload 6), (149, 3, .invokestatic 170), (152, 3, .if_icmp .ge 7), (155, 1, .iconst 1), (156, 3, .goto 4), (159, 1, .iconst 0), (160, 2, .istore 14), (162, 2, .iload 6), (164, 3, .ifCond .lt 13), (167, 2, .iload 13), (169, 3, .ifCond .ne 8), (172, 2, .iload 14), (174, 3, .ifCond .eq 11), (177, 2, .iload 10), (179, 2, .istore 6), (181, 2, .lload 11), (183, 2, .lstore 7), (185, 3, .iinc 9 1), (188, 3, .goto (-142)), (191, 1, .aload_n 0), (192, 1, .iconst 0), (193, 3, .putfield 11), (196, 1, .aload_n 0), (197, 2, .iload 6), (199, 1, .i2l), (200, 3, .invokevirtual 235), (203, 1, .aload_n 0), (204, 2, .lload 7), (206, 3, .invokevirtual 235), (209, 1, .iconst 0), (210, 1, .ireturn)], [(3, 0, 9, 0, 0), (11, 0, 9, 1, 0), (17, 2, 128, 3, 0), (39, 1, 132, 1, 9), (170, 2, 11, 1, 0), (235, 1, 131, 1, 9), (338, 1, 187, 1, 9), (357, 1, 204, 3, 9), (360, 1, 205, 3, 9), (364, 1, 203, 3, 9)])
/-- NamesInBagsModel.never(IIII)I -/
def nm_m207 : px_M := (⟨"NamesInBagsModel", "never", "(IIII)I"⟩, prog_11_method_81_code, 11, (some .int), { frames := 8, cells := 0, slots := 0, locals := 195 }, [(0, 1, .aload_n 0), (1, 1, .iconst 0), (2, 3, .putfield 3), (5, 1, .aload_n 0), (6, 1, .iload_n 1), (7, 1, .iload_n 2), (8, 2, .iload 4), (10, 3, .invokevirtual 357), (13, 3, .ifCond .eq 15), (16, 1, .iload_n 3), (17, 1, .i2l), (18, 1, .lconst 0), (19, 3, .ldc2_w 21), (22, 3, .invokestatic 17), (25, 3, .ifCond .ne 5), (28, 1, .iconst (-1)), (29, 1, .ireturn), (30, 1, .iconst (-1)), (31, 2, .istore 5), (33, 1, .iconst 0), (34, 2, .istore 6), (36, 1, .iconst 0), (37, 2, .istore 7), (39, 2, .iload 7), (41, 1, .iload_n 2), (42, 3, .if_icmp .gt 149), (45, 2, .iload 7), (47, 1, .iload_n 2), (48, 1, .iconst (-1)), (49, 1, .ixor), (50, 1, .iand), (51, 3, .ifCond .eq 6), (54, 3, .goto 131), (57, 1, .aload_n 0), (58, 1, .iload_n 1), (59, 1, .iload_n 2), (60, 2, .iload 7), (62, 3, .invokevirtual 360), (65, 2, .istore 8), (67, 1, .aload_n 0), (68, 1, .iload_n 1), (69, 2, .iload 8), (71, 2, .iload 4), (73, 3, .invokevirtual 364), (76, 3, .ifCond .ne 6), (79, 2, .bipush (-3)), (81, 1, .ireturn), (82, 1, .iconst 0), (83, 2, .istore 9), (85, 1, .iconst 0), (86, 2, .istore 10), (88, 2, .iload 10), (90, 1, .aload_n 0), (91, 3, .getfield 257), (94, 1, .iconst 2), (95, 1, .iaload), (96, 3, .if_icmp .ge 41), (99, 2, .iload 9), (101, 3, .ifCond .ne 23), (104, 1, .aload_n 0), (105, 3, .getfield 316), (108, 2, .iload 10), (110, 1, .iaload), (111, 3, .invokestatic 170), (114, 1, .aload_n 0), (115, 3, .getfield 86), (118, 2, .iload 4), (120, 1, .iaload), (121, 3, .if_icmp .ne 7), (124, 1, .iconst 1), (125, 3, .goto 4), (128, 1, .iconst 0), (129, 2, .istore 9), (131, 3, .iinc 10 1), (134, 3, .goto (-46)), (137, 2, .iload 9), (139, 3, .ifCond .eq 46), (142, 1, .aload_n 0), (143, 3, .invokevirtual 351), (146, 1, .aload_n 0), (147, 1, .iload_n 3), (148, 3, .invokevirtual 344), (151, 1, .iand), (152, 3, .ifCond .ne 33), (155, 3, .iinc 6 1), (158, 2, .iload 5), (160, 3, .ifCond .lt 16), (163, 2, .iload 8), (165, 3, .invokestatic 170), (168, 2, .iload 5), (170, 3, .invokestatic 170), (173, 3, .if_icmp .le 8), (176, 2, .iload 8), (178, 3, .goto 5), (181, 2, .iload 5), (183, 2, .istore 5), (185, 3, .iinc 7 1), (188, 3, .goto (-149)), (191, 1, .aload_n 0), (192, 1, .iconst 0), (193, 3, .putfield 11), (196, 2, .iload 5), (198, 3, .ifCond .lt 10), (201, 1, .aload_n 0), (202, 2, .iload 5), (204, 1, .i2l), (205, 3, .invokevirtual 235), (208, 2, .iload 6), (210, 1, .ireturn)], [(3, 0, 9, 0, 0), (11, 0, 9, 1, 0), (17, 2, 128, 3, 0), (21, 4, 0, 0, 5), (86, 0, 9, 14, 3), (170, 2, 11, 1, 0), (235, 1, 131, 1, 9), (257, 0, 9, 43, 3), (316, 0, 9, 47, 3), (344, 1, 195, 1, 9), (351, 1, 199, 0, 9), (357, 1, 204, 3, 9), (360, 1, 205, 3, 9), (364, 1, 203, 3, 9)])
/-- NamesInBagsModel.unlike(I)J -/
def nm_m208 : px_M := (⟨"NamesInBagsModel", "unlike", "(I)J"⟩, prog_11_method_82_code, 9, (some .long), { frames := 2, cells := 0, slots := 0, locals := 45 }, [(0, 3, .ldc2_w 367), (3, 1, .lstore_n 2), (4, 1, .lconst 0), (5, 2, .lstore 4), (7, 1, .iconst 0), (8, 2, .istore 6), (10, 2, .iload 6), (12, 1, .aload_n 0), (13, 3, .getfield 14), (16, 3, .if_icmp .ge 55), (19, 1, .iload_n 1), (20, 2, .iload 6), (22, 3, .invokestatic 154), (25, 3, .ifCond .eq 40), (28, 1, .aload_n 0), (29, 1, .iconst 1), (30, 2, .iload 6), (32, 1, .ishl), (33, 3, .invokevirtual 338), (36, 2, .lstore 7), (38, 1, .lload_n 2), (39, 1, .lconst 0), (40, 1, .lcmp), (41, 3, .ifCond .ge 8), (44, 2, .lload 7), (46, 3, .goto 9), (49, 1, .lload_n 2), (50, 2, .lload 7), (52, 3, .invokestatic 369), (55, 1, .lstore_n 2), (56, 2, .lload 4), (58, 2, .lload 7), (60, 3, .invokestatic 372), (63, 2, .lstore 4), (65, 3, .iinc 6 1), (68, 3, .goto (-58)), (71, 2, .lload 4), (73, 1, .lload_n 2), (74, 1, .lsub), (75, 1, .lreturn)], [(14, 0, 9, 3, 0), (154, 2, 129, 2, 0), (338, 1, 187, 1, 9), (367, 4, 0, 0, (-1)), (369, 11, 3, 0, 0), (372, 11, 2, 0, 0)])
/-- NamesInBagsModel.even(IIII)I -/
def nm_m209 : px_M := (⟨"NamesInBagsModel", "even", "(IIII)I"⟩, prog_11_method_83_code, 12, (some .int), { frames := 8, cells := 0, slots := 0, locals := 195 }, [(0, 1, .aload_n 0), (1, 1, .iconst 0), (2, 3, .putfield 3), (5, 1, .aload_n 0), (6, 1, .iload_n 1), (7, 1, .iload_n 2), (8, 2, .iload 4), (10, 3, .invokevirtual 357), (13, 3, .ifCond .eq 15), (16, 1, .aload_n 0), (17, 1, .iload_n 3), (18, 3, .invokevirtual 61), (21, 3, .ifCond .eq 7), (24, 1, .iload_n 3), (25, 3, .ifCond .ne 5), (28, 1, .iconst (-1)), (29, 1, .ireturn), (30, 1, .iconst (-1)), (31, 2, .istore 5), (33, 1, .lconst 0), (34, 2, .lstore 6), (36, 1, .iconst 0), (37, 2, .istore 8), (39, 2, .iload 8), (41, 1, .iload_n 2), (42, 3, .if_icmp .gt 95), (45, 2, .iload 8), (47, 1, .iload_n 2), (48, 1, .iconst (-1)), (49, 1, .ixor), (50, 1, .iand), (51, 3, .ifCond .eq 6), (54, 3, .goto 77), (57, 1, .aload_n 0), (58, 1, .iload_n 1), (59, 1, .iload_n 2), (60, 2, .iload 8), (62, 3, .invokevirtual 360), (65, 2, .istore 9), (67, 1, .aload_n 0), (68, 1, .iload_n 1), (69, 2, .iload 9), (71, 2, .iload 4), (73, 3, .invokevirtual 364), (76, 3, .ifCond .ne 6), (79, 2, .bipush (-3)), (81, 1, .ireturn), (82, 1, .aload_n 0), (83, 1, .iload_n 3), (84, 3, .invokevirtual 374), (87, 2, .lstore 10), (89, 2, .iload 5), (91, 3, .ifCond .lt 32), (94, 2, .lload 10), (96, 2, .lload 6), (98, 1, .lcmp), (99, 3, .ifCond .lt 24), (102, 2, .lload 10), (104, 2, .lload 6), (106, 1, .lcmp), (107, 3, .ifCond .ne 24), (110, 2, .iload 9), (112, 3, .invokestatic 170), (115, 2, .iload 5), (117, 3, .invokestatic 170), (120, 3, .if_icmp .le 11), (123, 2, .iload 9), (125, 2, .istore 5), (127, 2, .lload 10), (129, 2, .lstore 6), (131, 3, .iinc 8 1), (134, 3, .goto (-95)), (137, 1, .aload_n 0), (138, 1, .iconst 0), (139, 3, .putfield 11), (142, 1, .aload_n 0), (143, 2, .iload 5), (145, 1, .i2l), (146, 3, .invokevirtual 235), (149, 1, .aload_n 0), (150, 2, .lload 6), (152, 3, .invokevirtual 235), (155, 1, .iconst 0), (156, 1, .ireturn)], [(3, 0, 9, 0, 0), (11, 0, 9, 1, 0), (61, 1, 133, 1, 9), (170, 2, 11, 1, 0), (235, 1, 131, 1, 9), (357, 1, 204, 3, 9), (360, 1, 205, 3, 9), (364, 1, 203, 3, 9), (374, 1, 208, 1, 9)])
/-- NamesInBagsModel.fair(II)I -/
def nm_m210 : px_M := (⟨"NamesInBagsModel", "fair", "(II)I"⟩, prog_11_method_84_code, 10, (some .int), { frames := 9, cells := 0, slots := 0, locals := 214 }, [(0, 1, .aload_n 0), (1, 1, .iconst 0), (2, 3, .putfield 3), (5, 1, .aload_n 0), (6, 1, .iload_n 1), (7, 3, .invokevirtual 61), (10, 3, .ifCond .eq 15), (13, 1, .iload_n 1), (14, 3, .ifCond .eq 11), (17, 1, .aload_n 0), (18, 1, .iload_n 2), (19, 3, .invokevirtual 332), (22, 3, .ifCond .ne 5), (25, 1, .iconst (-1)), (26, 1, .ireturn), (27, 1, .aload_n 0), (28, 3, .getfield 129), (31, 1, .iconst 1), (32, 1, .baload), (33, 3, .ifCond .ne 24), (36, 1, .aload_n 0), (37, 3, .getfield 129), (40, 1, .iconst 2), (41, 1, .baload), (42, 3, .ifCond .ne 15), (45, 1, .aload_n 0), (46, 3, .getfield 129), (49, 1, .iconst 3), (50, 1, .baload), (51, 3, .ifCond .ne 6), (54, 2, .bipush (-4)), (56, 1, .ireturn), (57, 1, .iconst (-1)), (58, 1, .istore_n 3), (59, 1, .lconst 0), (60, 2, .lstore 4), (62, 1, .iconst 1), (63, 2, .istore 6), (65, 1, .iconst 0), (66, 2, .istore 7), (68, 2, .iload 7), (70, 1, .iconst 4), (71, 3, .if_icmp .ge 85), (74, 2, .iload 6), (76, 3, .ifCond .eq 80), (79, 2, .iload 7), (81, 3, .ifCond .le 16), (84, 1, .aload_n 0), (85, 3, .getfield 129), (88, 2, .iload 7), (90, 1, .baload), (91, 3, .ifCond .ne 6), (94, 3, .goto 56), (97, 1, .aload_n 0), (98, 2, .iload 7), (100, 3, .putfield 144), (103, 1, .aload_n 0), (104, 1, .iload_n 2), (105, 3, .invokevirtual 335), (108, 2, .istore 6), (110, 2, .iload 6), (112, 3, .ifCond .eq 11), (115, 1, .aload_n 0), (116, 1, .iload_n 1), (117, 3, .invokevirtual 374), (120, 3, .goto 4), (123, 1, .lconst 0), (124, 2, .lstore 8), (126, 2, .iload 6), (128, 3, .ifCond .eq 22), (131, 1, .iload_n 3), (132, 3, .ifCond .lt 11), (135, 2, .lload 8), (137, 2, .lload 4), (139, 1, .lcmp), (140, 3, .ifCond .ge 10), (143, 2, .iload 7), (145, 1, .istore_n 3), (146, 2, .lload 8), (148, 2, .lstore 4), (150, 3, .iinc 7 1), (153, 3, .goto (-85)), (156, 1, .aload_n 0), (157, 1, .iconst 0), (158, 3, .putfield 144), (161, 2, .iload 6), (163, 3, .ifCond .ne 6), (166, 2, .bipush (-3)), (168, 1, .ireturn), (169, 1, .aload_n 0), (170, 1, .iconst 0), (171, 3, .putfield 11), (174, 1, .aload_n 0), (175, 2, .lload 4), (177, 3, .invokevirtual 235), (180, 1, .iload_n 3), (181, 3, .ifCond .ne 7), (184, 1, .iconst 3), (185, 3, .goto 6), (188, 1, .iload_n 3), (189, 1, .iconst 1), (190, 1, .isub), (191, 1, .ireturn)], [(3, 0, 9, 0, 0), (11, 0, 9, 1, 0), (61, 1, 133, 1, 9), (129, 0, 9, 17, 3), (144, 0, 9, 15, 0), (235, 1, 131, 1, 9), (332, 1, 185, 1, 9), (335, 1, 188, 1, 9), (374, 1, 208, 1, 9)])
/-- NamesInBagsModel.sumBelow(I)J -/
def nm_m211 : px_M := (⟨"NamesInBagsModel", "sumBelow", "(I)J"⟩, prog_11_method_86_code, 5, (some .long), { frames := 2, cells := 0, slots := 0, locals := 45 }, [(0, 1, .lconst 0), (1, 1, .lstore_n 2), (2, 1, .iconst 0), (3, 2, .istore 4), (5, 2, .iload 4), (7, 1, .aload_n 0), (8, 3, .getfield 86), (11, 1, .iload_n 1), (12, 1, .iaload), (13, 3, .if_icmp .ge 18), (16, 1, .lload_n 2), (17, 1, .aload_n 0), (18, 2, .iload 4), (20, 3, .invokevirtual 341), (23, 1, .ladd), (24, 1, .lstore_n 2), (25, 3, .iinc 4 1), (28, 3, .goto (-23)), (31, 1, .lload_n 2), (32, 1, .lreturn)], [(86, 0, 9, 14, 3), (341, 1, 192, 1, 9)])
/-- NamesInBagsModel.war(II)I -/
def nm_m212 : px_M := (⟨"NamesInBagsModel", "war", "(II)I"⟩, prog_11_method_85_code, 6, (some .int), { frames := 9, cells := 0, slots := 0, locals := 214 }, [(0, 1, .aload_n 0), (1, 1, .iconst 0), (2, 3, .putfield 3), (5, 1, .aload_n 0), (6, 1, .iload_n 1), (7, 3, .invokevirtual 61), (10, 3, .ifCond .eq 11), (13, 1, .aload_n 0), (14, 1, .iload_n 2), (15, 3, .invokevirtual 332), (18, 3, .ifCond .ne 5), (21, 1, .iconst (-1)), (22, 1, .ireturn), (23, 1, .aload_n 0), (24, 1, .iload_n 1), (25, 3, .putfield 158), (28, 1, .aload_n 0), (29, 1, .iload_n 2), (30, 3, .invokevirtual 335), (33, 1, .istore_n 3), (34, 1, .aload_n 0), (35, 1, .iconst 0), (36, 3, .putfield 158), (39, 1, .iload_n 3), (40, 3, .ifCond .ne 6), (43, 2, .bipush (-3)), (45, 1, .ireturn), (46, 1, .aload_n 0), (47, 1, .iload_n 2), (48, 3, .invokevirtual 377), (51, 2, .lstore 4), (53, 1, .aload_n 0), (54, 1, .iload_n 2), (55, 3, .invokevirtual 335), (58, 3, .ifCond .ne 6), (61, 2, .bipush (-3)), (63, 1, .ireturn), (64, 1, .aload_n 0), (65, 1, .iconst 0), (66, 3, .putfield 11), (69, 1, .aload_n 0), (70, 2, .lload 4), (72, 3, .invokevirtual 235), (75, 1, .aload_n 0), (76, 1, .aload_n 0), (77, 1, .iload_n 2), (78, 3, .invokevirtual 377), (81, 3, .invokevirtual 235), (84, 1, .iconst 0), (85, 1, .ireturn)], [(3, 0, 9, 0, 0), (11, 0, 9, 1, 0), (61, 1, 133, 1, 9), (158, 0, 9, 20, 0), (235, 1, 131, 1, 9), (332, 1, 185, 1, 9), (335, 1, 188, 1, 9), (377, 1, 211, 1, 9)])
/-- NamesInBagsModel.list(I)I -/
def nm_m213 : px_M := (⟨"NamesInBagsModel", "list", "(I)I"⟩, prog_11_method_87_code, 2, (some .int), { frames := 2, cells := 0, slots := 0, locals := 46 }, [(0, 1, .aload_n 0), (1, 1, .iconst 0), (2, 3, .putfield 3), (5, 1, .aload_n 0), (6, 1, .iload_n 1), (7, 3, .invokevirtual 61), (10, 3, .ifCond .eq 12), (13, 1, .aload_n 0), (14, 3, .getfield 380), (17, 2, .bipush 6), (19, 3, .if_icmp .ne 5), (22, 1, .iconst (-1)), (23, 1, .ireturn), (24, 1, .aload_n 0), (25, 3, .getfield 383), (28, 1, .aload_n 0), (29, 3, .getfield 380), (32, 1, .iload_n 1), (33, 1, .iastore), (34, 1, .aload_n 0), (35, 1, .dup), (36, 3, .getfield 380), (39, 1, .iconst 1), (40, 1, .iadd), (41, 3, .putfield 380), (44, 1, .aload_n 0), (45, 3, .getfield 380), (48, 1, .ireturn)], [(3, 0, 9, 0, 0), (61, 1, 133, 1, 9), (380, 0, 9, 49, 0), (383, 0, 9, 50, 3)])
/-- NamesInBagsModel.wipe()I -/
def nm_m214 : px_M := (⟨"NamesInBagsModel", "wipe", "()I"⟩, prog_11_method_88_code, 2, (some .int), { frames := 0, cells := 0, slots := 0, locals := 0 }, [(0, 1, .aload_n 0), (1, 1, .iconst 0), (2, 3, .putfield 3), (5, 1, .aload_n 0), (6, 3, .getfield 380), (9, 1, .istore_n 1), (10, 1, .aload_n 0), (11, 1, .iconst 0), (12, 3, .putfield 380), (15, 1, .iload_n 1), (16, 1, .ireturn)], [(3, 0, 9, 0, 0), (380, 0, 9, 49, 0)])
/-- NamesInBagsModel.keepsListed(I)V -/
def nm_m215 : px_M := (⟨"NamesInBagsModel", "keepsListed", "(I)V"⟩, prog_11_method_89_code, 4, none, { frames := 3, cells := 0, slots := 0, locals := 73 }, [(0, 1, .iconst 0), (1, 1, .istore_n 2), (2, 1, .iconst 0), (3, 1, .istore_n 3), (4, 1, .iload_n 3), (5, 1, .aload_n 0), (6, 3, .getfield 257), (9, 1, .iconst 2), (10, 1, .iaload), (11, 3, .if_icmp .ge 87), (14, 1, .aload_n 0), (15, 1, .iload_n 3), (16, 1, .iload_n 1), (17, 3, .invokevirtual 319), (20, 1, .aload_n 0), (21, 3, .getfield 383), (24, 1, .iload_n 1), (25, 1, .iaload), (26, 3, .if_icmp .ne 66), (29, 1, .aload_n 0), (30, 3, .getfield 273), (33, 3, .sipush 6002), (36, 1, .iload_n 2), (37, 1, .iadd), (38, 1, .aload_n 0), (39, 3, .getfield 273), (42, 3, .sipush 6002), (45, 1, .iload_n 3), (46, 1, .iadd), (47, 1, .laload), (48, 1, .lastore), (49, 1, .aload_n 0), (50, 3, .getfield 276), (53, 3, .sipush 6002), (56, 1, .iload_n 2), (57, 1, .iadd), (58, 1, .aload_n 0), (59, 3, .getfield 276), (62, 3, .sipush 6002), (65, 1, .iload_n 3), (66, 1, .iadd), (67, 1, .laload), (68, 1, .lastore), (69, 1, .aload_n 0), (70, 3, .getfield 279), (73, 3, .sipush 6002), (76, 1, .iload_n 2), (77, 1, .iadd), (78, 1, .aload_n 0), (79, 3, .getfield 279), (82, 3, .sipush 6002), (85, 1, .iload_n 3), (86, 1, .iadd), (87, 1, .laload), (88, 1, .lastore), (89, 3, .iinc 2 1), (92, 3, .iinc 3 1), (95, 3, .goto (-91)), (98, 1, .aload_n 0), (99, 3, .getfield 257), (102, 1, .iconst 2), (103, 1, .iload_n 2), (104, 1, .iastore), (105, 1, .return_)], [(257, 0, 9, 43, 3), (273, 0, 9, 40, 3), (276, 0, 9, 41, 3), (279, 0, 9, 42, 3), (319, 1, 183, 2, 9), (383, 0, 9, 50, 3)])
/-- NamesInBagsModel.lets(II)J -/
def nm_m216 : px_M := (⟨"NamesInBagsModel", "lets", "(II)J"⟩, prog_11_method_90_code, 7, (some .long), { frames := 6, cells := 0, slots := 0, locals := 148 }, [(0, 1, .aload_n 0), (1, 3, .invokevirtual 243), (4, 1, .aload_n 0), (5, 1, .aload_n 0), (6, 3, .getfield 64), (9, 1, .iload_n 1), (10, 1, .iaload), (11, 3, .putfield 354), (14, 1, .aload_n 0), (15, 3, .getfield 64), (18, 1, .iload_n 1), (19, 1, .iload_n 2), (20, 1, .iastore), (21, 1, .aload_n 0), (22, 3, .invokevirtual 254), (25, 1, .aload_n 0), (26, 1, .iconst 2), (27, 3, .invokevirtual 282), (30, 1, .aload_n 0), (31, 1, .iconst 2), (32, 3, .ldc2_w 308), (35, 3, .invokevirtual 289), (38, 1, .pop), (39, 1, .iconst 1), (40, 1, .istore_n 3), (41, 1, .iconst 0), (42, 2, .istore 4), (44, 2, .iload 4), (46, 1, .aload_n 0), (47, 3, .getfield 380), (50, 3, .if_icmp .ge 30), (53, 1, .iload_n 3), (54, 3, .ifCond .eq 26), (57, 1, .aload_n 0), (58, 2, .iload 4), (60, 3, .invokevirtual 310), (63, 1, .istore_n 3), (64, 1, .iload_n 3), (65, 3, .ifCond .eq 9), (68, 1, .aload_n 0), (69, 2, .iload 4), (71, 3, .invokevirtual 386), (74, 3, .iinc 4 1), (77, 3, .goto (-33)), (80, 1, .aload_n 0), (81, 3, .getfield 64), (84, 1, .iload_n 1), (85, 1, .aload_n 0), (86, 3, .getfield 354), (89, 1, .iastore), (90, 1, .aload_n 0), (91, 3, .invokevirtual 251), (94, 1, .iload_n 3), (95, 3, .ifCond .ne 7), (98, 3, .ldc2_w 389), (101, 1, .lreturn), (102, 1, .lconst 0), (103, 2, .lstore 4), (105, 1, .iconst 0), (106, 2, .istore 6), (108, 2, .iload 6), (110, 1, .aload_n 0), (111, 3, .getfield 257), (114, 1, .iconst 2), (115, 1, .iaload), (116, 3, .if_icmp .ge 20), (119, 2, .lload 4), (121, 1, .aload_n 0), (122, 2, .iload 6), (124, 3, .invokevirtual 322), (127, 1, .ladd), (128, 2, .lstore 4), (130, 3, .iinc 6 1), (133, 3, .goto (-25)), (136, 1, .aload_n 0), (137, 3, .getfield 257), (140, 1, .iconst 2), (141, 1, .iaload), (142, 3, .ifCond .ne 9), (145, 3, .ldc2_w 367), (148, 3, .goto 5), (151, 2, .lload 4), (153, 1, .lreturn)], [(64, 0, 9, 9, 3), (243, 1, 161, 0, 9), (251, 1, 162, 0, 9), (254, 1, 157, 0, 9), (257, 0, 9, 43, 3), (282, 1, 173, 1, 9), (289, 1, 175, 2, 9), (308, 4, 0, 0, 1000000000000), (310, 1, 180, 1, 9), (322, 1, 186, 1, 9), (354, 0, 9, 48, 0), (367, 4, 0, 0, (-1)), (380, 0, 9, 49, 0), (386, 1, 215, 1, 9), (389, 4, 0, 0, (-2))])
/-- NamesInBagsModel.old(II)I -/
def nm_m217 : px_M := (⟨"NamesInBagsModel", "old", "(II)I"⟩, prog_11_method_91_code, 10, (some .int), { frames := 7, cells := 0, slots := 0, locals := 174 }, [(0, 1, .aload_n 0), (1, 1, .iconst 0), (2, 3, .putfield 3), (5, 1, .iload_n 1), (6, 3, .invokestatic 58), (9, 3, .ifCond .eq 31), (12, 1, .aload_n 0), (13, 1, .iload_n 2), (14, 3, .invokevirtual 61), (17, 3, .ifCond .eq 23), (20, 1, .iload_n 2), (21, 3, .invokestatic 170), (24, 2, .bipush 6), (26, 3, .if_icmp .gt 14), (29, 1, .aload_n 0), (30, 3, .getfield 380), (33, 1, .aload_n 0), (34, 3, .getfield 77), (37, 3, .if_icmp .le 5), (40, 1, .iconst (-1)), (41, 1, .ireturn), (42, 1, .iconst 0), (43, 1, .istore_n 3), (44, 1, .iconst (-1)), (45, 2, .istore 4), (47, 1, .iconst 0), (48, 2, .istore 5), (50, 1, .iconst 0), (51, 2, .istore 6), (53, 2, .iload 6), (55, 1, .iload_n 2), (56, 3, .if_icmp .gt 76), (59, 2, .iload 6), (61, 1, .iload_n 2), (62, 1, .iconst (-1)), (63, 1, .ixor), (64, 1, .iand), (65, 3, .ifCond .eq 6), (68, 3, .goto 58), (71, 1, .aload_n 0), (72, 1, .iload_n 1), (73, 1, .iload_n 2), (74, 2, .iload 6), (76, 3, .invokevirtual 360), (79, 2, .istore 7), (81, 1, .aload_n 0), (82, 1, .iload_n 1), (83, 2, .iload 7), (85, 3, .invokevirtual 391), (88, 2, .lstore 8), (90, 2, .lload 8), (92, 3, .ldc2_w 389), (95, 1, .lcmp), (96, 3, .ifCond .ne 6), (99, 2, .bipush (-3)), (101, 1, .ireturn), (102, 2, .lload 8), (104, 1, .lconst 0), (105, 1, .lcmp), (106, 3, .ifCond .lt 20), (109, 3, .iinc 3 1), (112, 2, .iload 4), (114, 2, .iload 7), (116, 1, .iand), (117, 2, .istore 4), (119, 2, .iload 5), (121, 2, .iload 7), (123, 1, .ior), (124, 2, .istore 5), (126, 3, .iinc 6 1), (129, 3, .goto (-76)), (132, 1, .aload_n 0), (133, 1, .iconst 0), (134, 3, .putfield 11), (137, 1, .aload_n 0), (138, 1, .iload_n 3), (139, 3, .ifCond .ne 7), (142, 1, .lconst 0), (143, 3, .goto 6), (146, 2, .iload 4), (148, 1, .i2l), (149, 3, .invokevirtual 235), (152, 1, .aload_n 0), (153, 2, .iload 5), (155, 1, .i2l), (156, 3, .invokevirtual 235), (159, 1, .iload_n 3), (160, 1, .ireturn)], [(3, 0, 9, 0, 0), (11, 0, 9, 1, 0), (58, 2, 139, 1, 0), (61, 1, 133, 1, 9), (77, 0, 9, 11, 0), (170, 2, 11, 1, 0), (235, 1, 131, 1, 9), (360, 1, 205, 3, 9), (380, 0, 9, 49, 0), (389, 4, 0, 0, (-2)), (391, 1, 216, 2, 9)])
/-- NamesInBagsModel.seldom()I -/
def nm_m218 : px_M := (⟨"NamesInBagsModel", "seldom", "()I"⟩, prog_11_method_92_code, 3, (some .int), { frames := 7, cells := 0, slots := 0, locals := 174 }, [(0, 1, .aload_n 0), (1, 1, .iconst 0), (2, 3, .putfield 3), (5, 1, .aload_n 0), (6, 3, .getfield 380), (9, 1, .aload_n 0), (10, 3, .getfield 77), (13, 3, .if_icmp .le 5), (16, 1, .iconst (-1)), (17, 1, .ireturn), (18, 1, .aload_n 0), (19, 1, .iconst 0), (20, 1, .aload_n 0), (21, 3, .getfield 64), (24, 1, .iconst 0), (25, 1, .iaload), (26, 3, .invokevirtual 391), (29, 1, .lstore_n 1), (30, 1, .lload_n 1), (31, 3, .ldc2_w 389), (34, 1, .lcmp), (35, 3, .ifCond .ne 6), (38, 2, .bipush (-3)), (40, 1, .ireturn), (41, 1, .aload_n 0), (42, 1, .iconst 0), (43, 3, .putfield 11), (46, 1, .aload_n 0), (47, 1, .lconst 0), (48, 1, .lload_n 1), (49, 3, .invokestatic 372), (52, 3, .invokevirtual 235), (55, 1, .iconst 0), (56, 1, .ireturn)], [(3, 0, 9, 0, 0), (11, 0, 9, 1, 0), (64, 0, 9, 9, 3), (77, 0, 9, 11, 0), (235, 1, 131, 1, 9), (372, 11, 2, 0, 0), (380, 0, 9, 49, 0), (389, 4, 0, 0, (-2)), (391, 1, 216, 2, 9)])
/-- NamesInBagsModel.seed(I)I -/
def nm_m219 : px_M := (⟨"NamesInBagsModel", "seed", "(I)I"⟩, prog_11_method_93_code, 3, (some .int), { frames := 0, cells := 0, slots := 0, locals := 0 }, [(0, 1, .aload_n 0), (1, 1, .iconst 0), (2, 3, .putfield 3), (5, 1, .aload_n 0), (6, 3, .getfield 206), (9, 1, .istore_n 2), (10, 1, .aload_n 0), (11, 1, .iload_n 1), (12, 3, .putfield 206), (15, 1, .iload_n 2), (16, 1, .ireturn)], [(3, 0, 9, 0, 0), (206, 0, 9, 37, 0)])
/-- NamesInBagsModel.keep(I)Z -/
def nm_m220 : px_M := (⟨"NamesInBagsModel", "keep", "(I)Z"⟩, prog_11_method_94_code, 2, (some .boolean), { frames := 1, cells := 0, slots := 0, locals := 25 }, [(0, 1, .aload_n 0), (1, 1, .iconst 0), (2, 3, .putfield 3), (5, 1, .iload_n 1), (6, 1, .i2l), (7, 1, .lconst 0), (8, 3, .ldc2_w 142), (11, 3, .invokestatic 17), (14, 3, .ifCond .ne 5), (17, 1, .iconst 0), (18, 1, .ireturn), (19, 1, .aload_n 0), (20, 3, .getfield 395), (23, 1, .iload_n 1), (24, 1, .iconst 1), (25, 1, .bastore), (26, 1, .aload_n 0), (27, 3, .getfield 398), (30, 1, .iload_n 1), (31, 1, .aload_n 0), (32, 3, .invokevirtual 185), (35, 1, .lastore), (36, 1, .aload_n 0), (37, 3, .getfield 401), (40, 1, .iload_n 1), (41, 1, .aload_n 0), (42, 3, .invokevirtual 193), (45, 1, .lastore), (46, 1, .aload_n 0), (47, 3, .getfield 404), (50, 1, .iload_n 1), (51, 1, .aload_n 0), (52, 3, .getfield 178), (55, 1, .iastore), (56, 1, .aload_n 0), (57, 3, .getfield 407), (60, 1, .iload_n 1), (61, 1, .aload_n 0), (62, 3, .getfield 206), (65, 1, .iastore), (66, 1, .iconst 1), (67, 1, .ireturn)], [(3, 0, 9, 0, 0), (17, 2, 128, 3, 0), (142, 4, 0, 0, 2), (178, 0, 9, 31, 0), (185, 1, 158, 0, 9), (193, 1, 159, 0, 9), (206, 0, 9, 37, 0), (395, 0, 9, 51, 3), (398, 0, 9, 52, 3), (401, 0, 9, 53, 3), (404, 0, 9, 54, 3), (407, 0, 9, 55, 3)])
/-- NamesInBagsModel.again(I)Z -/
def nm_m221 : px_M := (⟨"NamesInBagsModel", "again", "(I)Z"⟩, prog_11_method_95_code, 2, (some .boolean), { frames := 1, cells := 0, slots := 0, locals := 27 }, [(0, 1, .aload_n 0), (1, 1, .iconst 0), (2, 3, .putfield 3), (5, 1, .iload_n 1), (6, 1, .i2l), (7, 1, .lconst 0), (8, 3, .ldc2_w 142), (11, 3, .invokestatic 17), (14, 3, .ifCond .eq 12), (17, 1, .aload_n 0), (18, 3, .getfield 395), (21, 1, .iload_n 1), (22, 1, .baload), (23, 3, .ifCond .ne 5), (26, 1, .iconst 0), (27, 1, .ireturn), (28, 1, .aload_n 0), (29, 1, .aload_n 0), (30, 3, .getfield 398), (33, 1, .iload_n 1), (34, 1, .laload), (35, 1, .aload_n 0), (36, 3, .getfield 401), (39, 1, .iload_n 1), (40, 1, .laload), (41, 3, .invokevirtual 202), (44, 1, .aload_n 0), (45, 1, .aload_n 0), (46, 3, .getfield 404), (49, 1, .iload_n 1), (50, 1, .iaload), (51, 3, .putfield 178), (54, 1, .aload_n 0), (55, 1, .aload_n 0), (56, 3, .getfield 407), (59, 1, .iload_n 1), (60, 1, .iaload), (61, 3, .putfield 206), (64, 1, .iconst 1), (65, 1, .ireturn)], [(3, 0, 9, 0, 0), (17, 2, 128, 3, 0), (142, 4, 0, 0, 2), (178, 0, 9, 31, 0), (202, 1, 160, 2, 9), (206, 0, 9, 37, 0), (395, 0, 9, 51, 3), (398, 0, 9, 52, 3), (401, 0, 9, 53, 3), (404, 0, 9, 54, 3), (407, 0, 9, 55, 3)])
/-- NamesInBagsModel.toldBits()I -/
def nm_m222 : px_M := (⟨"NamesInBagsModel", "toldBits", "()I"⟩, prog_11_method_96_code, 3, (some .int), { frames := 0, cells := 0, slots := 0, locals := 0 }, [(0, 1, .iconst 0), (1, 1, .istore_n 1), (2, 1, .iconst 1), (3, 1, .istore_n 2), (4, 1, .iload_n 2), (5, 1, .iconst 4), (6, 3, .if_icmp .ge 30), (9, 1, .iload_n 1), (10, 1, .aload_n 0), (11, 3, .getfield 129), (14, 1, .iload_n 2), (15, 1, .baload), (16, 3, .ifCond .eq 11), (19, 1, .iconst 1), (20, 1, .iload_n 2), (21, 1, .iconst 1), (22, 1, .isub), (23, 1, .ishl), (24, 3, .goto 4), (27, 1, .iconst 0), (28, 1, .ior), (29, 1, .istore_n 1), (30, 3, .iinc 2 1), (33, 3, .goto (-29)), (36, 1, .iload_n 1), (37, 1, .ireturn)], [(129, 0, 9, 17, 3)])
/-- NamesInBagsModel.count(I)I -/
def nm_m223 : px_M := (⟨"NamesInBagsModel", "count", "(I)I"⟩, prog_11_method_97_code, 2, (some .int), { frames := 1, cells := 0, slots := 0, locals := 22 }, [(0, 1, .aload_n 0), (1, 1, .iconst 0), (2, 3, .putfield 3), (5, 1, .iload_n 1), (6, 54, .tableswitch 110 0 9 #[54, 59, 64, 69, 76, 81, 86, 91, 98, 105]), (60, 1, .aload_n 0), (61, 3, .getfield 14), (64, 1, .ireturn), (65, 1, .aload_n 0), (66, 3, .getfield 77), (69, 1, .ireturn), (70, 1, .aload_n 0), (71, 3, .getfield 178), (74, 1, .ireturn), (75, 1, .aload_n 0), (76, 3, .getfield 126), (79, 1, .iconst 0), (80, 1, .iaload), (81, 1, .ireturn), (82, 1, .aload_n 0), (83, 3, .getfield 89), (86, 1, .ireturn), (87, 1, .aload_n 0), (88, 3, .getfield 11), (91, 1, .ireturn), (92, 1, .aload_n 0), (93, 3, .getfield 380), (96, 1, .ireturn), (97, 1, .aload_n 0), (98, 3, .getfield 64), (101, 1, .iconst 0), (102, 1, .iaload), (103, 1, .ireturn), (104, 1, .aload_n 0), (105, 3, .getfield 64), (108, 1, .iconst 1), (109, 1, .iaload), (110, 1, .ireturn), (111, 1, .aload_n 0), (112, 3, .invokevirtual 410), (115, 1, .ireturn), (116, 1, .iconst (-1)), (117, 1, .ireturn)], [(3, 0, 9, 0, 0), (11, 0, 9, 1, 0), (14, 0, 9, 3, 0), (64, 0, 9, 9, 3), (77, 0, 9, 11, 0), (89, 0, 9, 22, 0), (126, 0, 9, 16, 3), (178, 0, 9, 31, 0), (380, 0, 9, 49, 0), (410, 1, 222, 0, 9)])
/-- NamesInBagsModel.<init>()V -/
def nm_m224 : px_M := (⟨"NamesInBagsModel", "<init>", "()V"⟩, prog_11_method_98_code, 1, none, { frames := 1, cells := 35, slots := 54893, locals := 20 }, [(0, 1, .aload_n 0), (1, 3, .invokespecial 413), (4, 1, .aload_n 0), (5, 2, .bipush 64), (7, 2, .newarray .long), (9, 3, .putfield 7), (12, 1, .aload_n 0), (13, 2, .bipush 10), (15, 2, .newarray .int), (17, 3, .putfield 23), (20, 1, .aload_n 0), (21, 2, .bipush 10), (23, 2, .newarray .int), (25, 3, .putfield 27), (28, 1, .aload_n 0), (29, 2, .bipush 10), (31, 2, .newarray .int), (33, 3, .putfield 30), (36, 1, .aload_n 0), (37, 2, .bipush 10), (39, 2, .newarray .int), (41, 3, .putfield 33), (44, 1, .aload_n 0), (45, 2, .bipush 10), (47, 2, .newarray .int), (49, 3, .putfield 36), (52, 1, .aload_n 0), (53, 1, .iconst 2), (54, 2, .newarray .int), (56, 3, .putfield 64), (59, 1, .aload_n 0), (60, 1, .iconst 2), (61, 2, .newarray .boolean), (63, 3, .putfield 73), (66, 1, .aload_n 0), (67, 2, .bipush 6), (69, 2, .newarray .int), (71, 3, .putfield 80), (74, 1, .aload_n 0), (75, 2, .bipush 6), (77, 2, .newarray .int), (79, 3, .putfield 83), (82, 1, .aload_n 0), (83, 2, .bipush 6), (85, 2, .newarray .int), (87, 3, .putfield 86), (90, 1, .aload_n 0), (91, 1, .iconst 4), (92, 2, .newarray .int), (94, 3, .putfield 126), (97, 1, .aload_n 0), (98, 1, .iconst 4), (99, 2, .newarray .boolean), (101, 3, .putfield 129), (104, 1, .aload_n 0), (105, 2, .bipush 28), (107, 2, .newarray .int), (109, 3, .putfield 132), (112, 1, .aload_n 0), (113, 2, .bipush 28), (115, 2, .newarray .int), (117, 3, .putfield 135), (120, 1, .aload_n 0), (121, 2, .bipush 40), (123, 2, .newarray .int), (125, 3, .putfield 92), (128, 1, .aload_n 0), (129, 2, .bipush 8), (131, 2, .newarray .int), (133, 3, .putfield 113), (136, 1, .aload_n 0), (137, 2, .bipush 8), (139, 2, .newarray .int), (141, 3, .putfield 119), (144, 1, .aload_n 0), (145, 1, .iconst 2), (146, 2, .newarray .int), (148, 3, .putfield 67), (151, 1, .aload_n 0), (152, 1, .iconst 2), (153, 2, .newarray .int), (155, 3, .putfield 70), (158, 1, .aload_n 0), (159, 2, .bipush 10), (161, 2, .newarray .int), (163, 3, .putfield 161), (166, 1, .aload_n 0), (167, 1, .iconst 1), (168, 3, .putfield 206), (171, 1, .aload_n 0), (172, 1, .iconst 3), (173, 2, .newarray .int), (175, 3, .putfield 229), (178, 1, .aload_n 0), (179, 2, .bipush 10), (181, 2, .newarray .int), (183, 3, .putfield 223), (186, 1, .aload_n 0), (187, 3, .sipush 9003), (190, 2, .newarray .long), (192, 3, .putfield 273), (195, 1, .aload_n 0), (196, 3, .sipush 9003), (199, 2, .newarray .long), (201, 3, .putfield 276), (204, 1, .aload_n 0), (205, 3, .sipush 9003), (208, 2, .newarray .long), (210, 3, .putfield 279), (213, 1, .aload_n 0), (214, 1, .iconst 3), (215, 2, .newarray .int), (217, 3, .putfield 257), (220, 1, .aload_n 0), (221, 3, .sipush 24576), (224, 2, .newarray .int), (226, 3, .putfield 260), (229, 1, .aload_n 0), (230, 3, .sipush 3001), (233, 2, .newarray .int), (235, 3, .putfield 316), (238, 1, .aload_n 0), (239, 2, .bipush 6), (241, 2, .newarray .int), (243, 3, .putfield 383), (246, 1, .aload_n 0), (247, 1, .iconst 3), (248, 2, .newarray .boolean), (250, 3, .putfield 395), (253, 1, .aload_n 0), (254, 1, .iconst 3), (255, 2, .newarray .long), (257, 3, .putfield 398), (260, 1, .aload_n 0), (261, 1, .iconst 3), (262, 2, .newarray .long), (264, 3, .putfield 401), (267, 1, .aload_n 0), (268, 1, .iconst 3), (269, 2, .newarray .int), (271, 3, .putfield 404), (274, 1, .aload_n 0), (275, 1, .iconst 3), (276, 2, .newarray .int), (278, 3, .putfield 407), (281, 1, .return_)], [(7, 0, 9, 2, 2), (23, 0, 9, 4, 2), (27, 0, 9, 5, 2), (30, 0, 9, 6, 2), (33, 0, 9, 7, 2), (36, 0, 9, 8, 2), (64, 0, 9, 9, 2), (67, 0, 9, 28, 2), (70, 0, 9, 29, 2), (73, 0, 9, 10, 2), (80, 0, 9, 12, 2), (83, 0, 9, 13, 2), (86, 0, 9, 14, 2), (92, 0, 9, 21, 2), (113, 0, 9, 25, 2), (119, 0, 9, 26, 2), (126, 0, 9, 16, 2), (129, 0, 9, 17, 2), (132, 0, 9, 18, 2), (135, 0, 9, 19, 2), (161, 0, 9, 30, 2), (206, 0, 9, 37, 0), (223, 0, 9, 39, 2), (229, 0, 9, 38, 2), (257, 0, 9, 43, 2), (260, 0, 9, 44, 2), (273, 0, 9, 40, 2), (276, 0, 9, 41, 2), (279, 0, 9, 42, 2), (316, 0, 9, 47, 2), (383, 0, 9, 50, 2), (395, 0, 9, 51, 2), (398, 0, 9, 52, 2), (401, 0, 9, 53, 2), (404, 0, 9, 54, 2), (407, 0, 9, 55, 2), (413, 7, 0, 0, 0), (100007, 6, 27, 0, 0), (100015, 6, 28, 0, 0), (100023, 6, 29, 0, 0), (100031, 6, 30, 0, 0), (100039, 6, 31, 0, 0), (100047, 6, 32, 0, 0), (100054, 6, 33, 0, 0), (100061, 6, 34, 0, 0), (100069, 6, 35, 0, 0), (100077, 6, 36, 0, 0), (100085, 6, 37, 0, 0), (100092, 6, 38, 0, 0), (100099, 6, 39, 0, 0), (100107, 6, 40, 0, 0), (100115, 6, 41, 0, 0), (100123, 6, 42, 0, 0), (100131, 6, 43, 0, 0), (100139, 6, 44, 0, 0), (100146, 6, 45, 0, 0), (100153, 6, 46, 0, 0), (100161, 6, 47, 0, 0), (100173, 6, 48, 0, 0), (100181, 6, 49, 0, 0), (100190, 6, 50, 0, 0), (100199, 6, 51, 0, 0), (100208, 6, 52, 0, 0), (100215, 6, 53, 0, 0), (100224, 6, 54, 0, 0), (100233, 6, 55, 0, 0), (100241, 6, 56, 0, 0), (100248, 6, 57, 0, 0), (100255, 6, 58, 0, 0), (100262, 6, 59, 0, 0), (100269, 6, 60, 0, 0), (100276, 6, 61, 0, 0)])
/-- NamesInBagsModel.row(I)J -/
def nm_m225 : px_M := (⟨"NamesInBagsModel", "row", "(I)J"⟩, prog_11_method_99_code, 2, (some .long), { frames := 1, cells := 0, slots := 0, locals := 25 }, [(0, 1, .aload_n 0), (1, 1, .iconst 0), (2, 3, .putfield 3), (5, 1, .iload_n 1), (6, 1, .i2l), (7, 1, .lconst 0), (8, 1, .aload_n 0), (9, 3, .getfield 11), (12, 1, .iconst 1), (13, 1, .isub), (14, 1, .i2l), (15, 3, .invokestatic 17), (18, 3, .ifCond .ne 10), (21, 1, .aload_n 0), (22, 1, .iconst 1), (23, 3, .putfield 3), (26, 1, .lconst 0), (27, 1, .lreturn), (28, 1, .aload_n 0), (29, 3, .getfield 7), (32, 1, .iload_n 1), (33, 1, .laload), (34, 1, .lreturn)], [(3, 0, 9, 0, 0), (7, 0, 9, 2, 3), (11, 0, 9, 1, 0), (17, 2, 128, 3, 0)])
def nm_lrow0 : px_M := (⟨"NamesInBagsLaw", "row", "(LNamesInBags;I[J)I"⟩, method_3_code, 4, (some .int), { frames := 7, cells := 0, slots := 0, locals := 102 }, [(0, 1, .aload_n 2), (1, 1, .iconst 0), (2, 1, .aload_n 0), (3, 1, .iload_n 1), (4, 3, .invokevirtual 7), (7, 1, .lastore), (8, 3, .goto 6), (14, 1, .iconst 0), (15, 1, .ireturn)], [(7, 1, 126, 1, 8)])
def nm_lrow1 : px_M := (⟨"NamesInBagsLaw", "row", "(LNamesInBags;I[J)I"⟩, method_3_code, 4, (some .int), { frames := 7, cells := 1, slots := 6, locals := 102 }, [(0, 1, .aload_n 2), (1, 1, .iconst 0), (2, 1, .aload_n 0), (3, 1, .iload_n 1), (4, 3, .invokevirtual 7), (7, 1, .lastore), (8, 3, .goto 6), (14, 1, .iconst 0), (15, 1, .ireturn)], [(7, 1, 126, 1, 8)])
def nm_xrow1 : px_M := (⟨"NamesInBags", "row", "(I)J"⟩, prog_1_method_44_code, 2, (some .long), { frames := 6, cells := 1, slots := 6, locals := 81 }, [(0, 1, .iload_n 1), (1, 3, .ifCond .lt 14), (4, 1, .iload_n 1), (5, 1, .aload_n 0), (6, 3, .getfield 63), (9, 3, .getfield 210), (12, 3, .if_icmp .lt 11), (23, 1, .aload_n 0), (24, 3, .getfield 63), (27, 3, .getfield 351), (30, 1, .iload_n 1), (31, 1, .laload), (32, 1, .lreturn)], [(63, 0, 8, 9, 3), (210, 0, 2, 1, 0), (351, 0, 2, 0, 3)])
abbrev nm_xrow : Nat := 126
def nm_lc0 : List (Nat × Nat × Instr) := [(0, 3, .new 8), (3, 1, .dup), (4, 3, .invokespecial 15), (7, 1, .astore_n 1), (8, 3, .new 16), (11, 1, .dup), (12, 3, .invokespecial 18), (15, 1, .astore_n 2), (16, 1, .iconst 1), (17, 2, .newarray .long), (19, 1, .astore_n 3), (20, 1, .iconst 0), (21, 2, .istore 4), (23, 2, .iload 4), (25, 1, .aload_n 0), (26, 1, .arraylength), (27, 2, .bipush 6), (29, 1, .isub), (30, 3, .if_icmp .gt 1689), (33, 1, .aload_n 0), (34, 2, .iload 4), (36, 1, .iaload), (37, 2, .bipush 63), (39, 1, .iand), (40, 188, .tableswitch 1673 0 42 #[188, 213, 250, 299, 336, 397, 434, 487, 536, 561, 586, 599, 624, 649, 662, 731, 800, 813, 850, 875, 912, 937, 962, 987, 1012, 1049, 1074, 1111, 1148, 1161, 1234, 1295, 1356, 1393, 1430, 1455, 1468, 1505, 1518, 1543, 1568, 1593, 1618]), (228, 1, .aload_n 1), (229, 1, .aload_n 0), (230, 2, .iload 4), (232, 1, .iconst 1), (233, 1, .iadd), (234, 1, .iaload), (235, 3, .invokevirtual 19), (238, 1, .aload_n 2), (239, 1, .aload_n 0), (240, 2, .iload 4), (242, 1, .iconst 1), (243, 1, .iadd), (244, 1, .iaload), (245, 3, .invokevirtual 23), (248, 3, .if_icmp .eq 1465)]
def nm_lc1 : List (Nat × Nat × Instr) := [(251, 1, .iconst 0), (252, 1, .ireturn), (253, 1, .aload_n 1), (254, 1, .aload_n 0), (255, 2, .iload 4), (257, 1, .iconst 1), (258, 1, .iadd), (259, 1, .iaload), (260, 1, .aload_n 0), (261, 2, .iload 4), (263, 1, .iconst 2), (264, 1, .iadd), (265, 1, .iaload), (266, 3, .invokevirtual 24), (269, 1, .aload_n 2), (270, 1, .aload_n 0), (271, 2, .iload 4), (273, 1, .iconst 1), (274, 1, .iadd), (275, 1, .iaload), (276, 1, .aload_n 0), (277, 2, .iload 4), (279, 1, .iconst 2), (280, 1, .iadd), (281, 1, .iaload), (282, 3, .invokevirtual 28), (285, 3, .if_icmp .eq 1428), (288, 1, .iconst 0), (289, 1, .ireturn), (290, 1, .aload_n 1), (291, 1, .aload_n 0), (292, 2, .iload 4), (294, 1, .iconst 1), (295, 1, .iadd), (296, 1, .iaload), (297, 1, .aload_n 0), (298, 2, .iload 4), (300, 1, .iconst 2), (301, 1, .iadd), (302, 1, .iaload)]
def nm_lc2 : List (Nat × Nat × Instr) := [(303, 1, .aload_n 0), (304, 2, .iload 4), (306, 1, .iconst 3), (307, 1, .iadd), (308, 1, .iaload), (309, 3, .invokevirtual 29), (312, 1, .aload_n 2), (313, 1, .aload_n 0), (314, 2, .iload 4), (316, 1, .iconst 1), (317, 1, .iadd), (318, 1, .iaload), (319, 1, .aload_n 0), (320, 2, .iload 4), (322, 1, .iconst 2), (323, 1, .iadd), (324, 1, .iaload), (325, 1, .aload_n 0), (326, 2, .iload 4), (328, 1, .iconst 3), (329, 1, .iadd), (330, 1, .iaload), (331, 3, .invokevirtual 33), (334, 3, .if_icmp .eq 1379), (337, 1, .iconst 0), (338, 1, .ireturn), (339, 1, .aload_n 1), (340, 1, .aload_n 0), (341, 2, .iload 4), (343, 1, .iconst 1), (344, 1, .iadd), (345, 1, .iaload), (346, 1, .aload_n 0), (347, 2, .iload 4), (349, 1, .iconst 2), (350, 1, .iadd), (351, 1, .iaload), (352, 3, .invokevirtual 34), (355, 1, .aload_n 2), (356, 1, .aload_n 0)]
def nm_lc3 : List (Nat × Nat × Instr) := [(357, 2, .iload 4), (359, 1, .iconst 1), (360, 1, .iadd), (361, 1, .iaload), (362, 1, .aload_n 0), (363, 2, .iload 4), (365, 1, .iconst 2), (366, 1, .iadd), (367, 1, .iaload), (368, 3, .invokevirtual 37), (371, 3, .if_icmp .eq 1342), (374, 1, .iconst 0), (375, 1, .ireturn), (376, 1, .aload_n 1), (377, 1, .aload_n 0), (378, 2, .iload 4), (380, 1, .iconst 1), (381, 1, .iadd), (382, 1, .iaload), (383, 1, .aload_n 0), (384, 2, .iload 4), (386, 1, .iconst 2), (387, 1, .iadd), (388, 1, .iaload), (389, 1, .aload_n 0), (390, 2, .iload 4), (392, 1, .iconst 3), (393, 1, .iadd), (394, 1, .iaload), (395, 1, .aload_n 0), (396, 2, .iload 4), (398, 1, .iconst 4), (399, 1, .iadd), (400, 1, .iaload), (401, 3, .invokevirtual 38), (404, 1, .aload_n 2), (405, 1, .aload_n 0), (406, 2, .iload 4), (408, 1, .iconst 1), (409, 1, .iadd)]
def nm_lc4 : List (Nat × Nat × Instr) := [(410, 1, .iaload), (411, 1, .aload_n 0), (412, 2, .iload 4), (414, 1, .iconst 2), (415, 1, .iadd), (416, 1, .iaload), (417, 1, .aload_n 0), (418, 2, .iload 4), (420, 1, .iconst 3), (421, 1, .iadd), (422, 1, .iaload), (423, 1, .aload_n 0), (424, 2, .iload 4), (426, 1, .iconst 4), (427, 1, .iadd), (428, 1, .iaload), (429, 3, .invokevirtual 42), (432, 3, .if_icmp .eq 1281), (435, 1, .iconst 0), (436, 1, .ireturn), (437, 1, .aload_n 1), (438, 1, .aload_n 0), (439, 2, .iload 4), (441, 1, .iconst 1), (442, 1, .iadd), (443, 1, .iaload), (444, 1, .aload_n 0), (445, 2, .iload 4), (447, 1, .iconst 2), (448, 1, .iadd), (449, 1, .iaload), (450, 3, .invokevirtual 43), (453, 1, .aload_n 2), (454, 1, .aload_n 0), (455, 2, .iload 4), (457, 1, .iconst 1), (458, 1, .iadd), (459, 1, .iaload), (460, 1, .aload_n 0), (461, 2, .iload 4)]
def nm_lc5 : List (Nat × Nat × Instr) := [(463, 1, .iconst 2), (464, 1, .iadd), (465, 1, .iaload), (466, 3, .invokevirtual 46), (469, 3, .if_icmp .eq 1244), (472, 1, .iconst 0), (473, 1, .ireturn), (474, 1, .aload_n 1), (475, 1, .aload_n 0), (476, 2, .iload 4), (478, 1, .iconst 1), (479, 1, .iadd), (480, 1, .iaload), (481, 1, .aload_n 0), (482, 2, .iload 4), (484, 1, .iconst 2), (485, 1, .iadd), (486, 1, .iaload), (487, 3, .ifCond .eq 7), (490, 1, .iconst 1), (491, 3, .goto 4), (494, 1, .iconst 0), (495, 3, .invokevirtual 47), (498, 1, .aload_n 2), (499, 1, .aload_n 0), (500, 2, .iload 4), (502, 1, .iconst 1), (503, 1, .iadd), (504, 1, .iaload), (505, 1, .aload_n 0), (506, 2, .iload 4), (508, 1, .iconst 2), (509, 1, .iadd), (510, 1, .iaload), (511, 3, .ifCond .eq 7), (514, 1, .iconst 1), (515, 3, .goto 4), (518, 1, .iconst 0), (519, 3, .invokevirtual 51), (522, 3, .if_icmp .eq 1191)]
def nm_lc6 : List (Nat × Nat × Instr) := [(525, 1, .iconst 0), (526, 1, .ireturn), (527, 1, .aload_n 1), (528, 1, .aload_n 0), (529, 2, .iload 4), (531, 1, .iconst 1), (532, 1, .iadd), (533, 1, .iaload), (534, 1, .aload_n 0), (535, 2, .iload 4), (537, 1, .iconst 2), (538, 1, .iadd), (539, 1, .iaload), (540, 1, .aload_n 0), (541, 2, .iload 4), (543, 1, .iconst 3), (544, 1, .iadd), (545, 1, .iaload), (546, 3, .invokevirtual 52), (549, 1, .aload_n 2), (550, 1, .aload_n 0), (551, 2, .iload 4), (553, 1, .iconst 1), (554, 1, .iadd), (555, 1, .iaload), (556, 1, .aload_n 0), (557, 2, .iload 4), (559, 1, .iconst 2), (560, 1, .iadd), (561, 1, .iaload), (562, 1, .aload_n 0), (563, 2, .iload 4), (565, 1, .iconst 3), (566, 1, .iadd), (567, 1, .iaload), (568, 3, .invokevirtual 56), (571, 3, .if_icmp .eq 1142), (574, 1, .iconst 0), (575, 1, .ireturn), (576, 1, .aload_n 1)]
def nm_lc7 : List (Nat × Nat × Instr) := [(577, 1, .aload_n 0), (578, 2, .iload 4), (580, 1, .iconst 1), (581, 1, .iadd), (582, 1, .iaload), (583, 3, .invokevirtual 57), (586, 1, .aload_n 2), (587, 1, .aload_n 0), (588, 2, .iload 4), (590, 1, .iconst 1), (591, 1, .iadd), (592, 1, .iaload), (593, 3, .invokevirtual 60), (596, 3, .if_icmp .eq 1117), (599, 1, .iconst 0), (600, 1, .ireturn), (601, 1, .aload_n 1), (602, 1, .aload_n 0), (603, 2, .iload 4), (605, 1, .iconst 1), (606, 1, .iadd), (607, 1, .iaload), (608, 3, .invokevirtual 61), (611, 1, .aload_n 2), (612, 1, .aload_n 0), (613, 2, .iload 4), (615, 1, .iconst 1), (616, 1, .iadd), (617, 1, .iaload), (618, 3, .invokevirtual 65), (621, 3, .if_icmp .eq 1092), (624, 1, .iconst 0), (625, 1, .ireturn), (626, 1, .aload_n 1), (627, 3, .invokevirtual 66), (630, 1, .aload_n 2), (631, 3, .invokevirtual 70), (634, 3, .if_icmp .eq 1079), (637, 1, .iconst 0), (638, 1, .ireturn)]
def nm_lc8 : List (Nat × Nat × Instr) := [(639, 1, .aload_n 1), (640, 1, .aload_n 0), (641, 2, .iload 4), (643, 1, .iconst 1), (644, 1, .iadd), (645, 1, .iaload), (646, 3, .invokevirtual 71), (649, 1, .aload_n 2), (650, 1, .aload_n 0), (651, 2, .iload 4), (653, 1, .iconst 1), (654, 1, .iadd), (655, 1, .iaload), (656, 3, .invokevirtual 74), (659, 3, .if_icmp .eq 1054), (662, 1, .iconst 0), (663, 1, .ireturn), (664, 1, .aload_n 1), (665, 1, .aload_n 0), (666, 2, .iload 4), (668, 1, .iconst 1), (669, 1, .iadd), (670, 1, .iaload), (671, 3, .invokevirtual 75), (674, 1, .aload_n 2), (675, 1, .aload_n 0), (676, 2, .iload 4), (678, 1, .iconst 1), (679, 1, .iadd), (680, 1, .iaload), (681, 3, .invokevirtual 78), (684, 3, .if_icmp .eq 1029), (687, 1, .iconst 0), (688, 1, .ireturn), (689, 1, .aload_n 1), (690, 3, .invokevirtual 79), (693, 1, .aload_n 2), (694, 3, .invokevirtual 82), (697, 3, .if_icmp .eq 1016), (700, 1, .iconst 0)]
def nm_lc9 : List (Nat × Nat × Instr) := [(701, 1, .ireturn), (702, 1, .aload_n 1), (703, 1, .aload_n 0), (704, 2, .iload 4), (706, 1, .iconst 1), (707, 1, .iadd), (708, 1, .iaload), (709, 1, .i2l), (710, 2, .bipush 32), (712, 1, .lshl), (713, 1, .aload_n 0), (714, 2, .iload 4), (716, 1, .iconst 2), (717, 1, .iadd), (718, 1, .iaload), (719, 1, .i2l), (720, 3, .ldc2_w 83), (723, 1, .land), (724, 1, .lor), (725, 1, .aload_n 0), (726, 2, .iload 4), (728, 1, .iconst 3), (729, 1, .iadd), (730, 1, .iaload), (731, 3, .invokevirtual 85), (734, 1, .aload_n 2), (735, 1, .aload_n 0), (736, 2, .iload 4), (738, 1, .iconst 1), (739, 1, .iadd), (740, 1, .iaload), (741, 1, .i2l), (742, 2, .bipush 32), (744, 1, .lshl), (745, 1, .aload_n 0), (746, 2, .iload 4), (748, 1, .iconst 2), (749, 1, .iadd), (750, 1, .iaload), (751, 1, .i2l)]
def nm_lc10 : List (Nat × Nat × Instr) := [(752, 3, .ldc2_w 83), (755, 1, .land), (756, 1, .lor), (757, 1, .aload_n 0), (758, 2, .iload 4), (760, 1, .iconst 3), (761, 1, .iadd), (762, 1, .iaload), (763, 3, .invokevirtual 89), (766, 3, .if_icmp .eq 947), (769, 1, .iconst 0), (770, 1, .ireturn), (771, 1, .aload_n 1), (772, 1, .aload_n 0), (773, 2, .iload 4), (775, 1, .iconst 1), (776, 1, .iadd), (777, 1, .iaload), (778, 1, .i2l), (779, 2, .bipush 32), (781, 1, .lshl), (782, 1, .aload_n 0), (783, 2, .iload 4), (785, 1, .iconst 2), (786, 1, .iadd), (787, 1, .iaload), (788, 1, .i2l), (789, 3, .ldc2_w 83), (792, 1, .land), (793, 1, .lor), (794, 1, .aload_n 0), (795, 2, .iload 4), (797, 1, .iconst 3), (798, 1, .iadd), (799, 1, .iaload), (800, 3, .invokevirtual 90), (803, 1, .aload_n 2), (804, 1, .aload_n 0), (805, 2, .iload 4), (807, 1, .iconst 1)]
def nm_lc11 : List (Nat × Nat × Instr) := [(808, 1, .iadd), (809, 1, .iaload), (810, 1, .i2l), (811, 2, .bipush 32), (813, 1, .lshl), (814, 1, .aload_n 0), (815, 2, .iload 4), (817, 1, .iconst 2), (818, 1, .iadd), (819, 1, .iaload), (820, 1, .i2l), (821, 3, .ldc2_w 83), (824, 1, .land), (825, 1, .lor), (826, 1, .aload_n 0), (827, 2, .iload 4), (829, 1, .iconst 3), (830, 1, .iadd), (831, 1, .iaload), (832, 3, .invokevirtual 94), (835, 3, .if_icmp .eq 878), (838, 1, .iconst 0), (839, 1, .ireturn), (840, 1, .aload_n 1), (841, 3, .invokevirtual 95), (844, 1, .aload_n 2), (845, 3, .invokevirtual 98), (848, 3, .if_icmp .eq 865), (851, 1, .iconst 0), (852, 1, .ireturn), (853, 1, .aload_n 1), (854, 1, .aload_n 0), (855, 2, .iload 4), (857, 1, .iconst 1), (858, 1, .iadd), (859, 1, .iaload), (860, 1, .aload_n 0), (861, 2, .iload 4), (863, 1, .iconst 2), (864, 1, .iadd)]
def nm_lc12 : List (Nat × Nat × Instr) := [(865, 1, .iaload), (866, 3, .invokevirtual 99), (869, 1, .aload_n 2), (870, 1, .aload_n 0), (871, 2, .iload 4), (873, 1, .iconst 1), (874, 1, .iadd), (875, 1, .iaload), (876, 1, .aload_n 0), (877, 2, .iload 4), (879, 1, .iconst 2), (880, 1, .iadd), (881, 1, .iaload), (882, 3, .invokevirtual 102), (885, 3, .if_icmp .eq 828), (888, 1, .iconst 0), (889, 1, .ireturn), (890, 1, .aload_n 1), (891, 1, .aload_n 0), (892, 2, .iload 4), (894, 1, .iconst 1), (895, 1, .iadd), (896, 1, .iaload), (897, 3, .invokevirtual 103), (900, 1, .aload_n 2), (901, 1, .aload_n 0), (902, 2, .iload 4), (904, 1, .iconst 1), (905, 1, .iadd), (906, 1, .iaload), (907, 3, .invokevirtual 106), (910, 3, .if_icmp .eq 803), (913, 1, .iconst 0), (914, 1, .ireturn), (915, 1, .aload_n 1), (916, 1, .aload_n 0), (917, 2, .iload 4), (919, 1, .iconst 1), (920, 1, .iadd), (921, 1, .iaload)]
def nm_lc13 : List (Nat × Nat × Instr) := [(922, 1, .aload_n 0), (923, 2, .iload 4), (925, 1, .iconst 2), (926, 1, .iadd), (927, 1, .iaload), (928, 3, .invokevirtual 107), (931, 1, .aload_n 2), (932, 1, .aload_n 0), (933, 2, .iload 4), (935, 1, .iconst 1), (936, 1, .iadd), (937, 1, .iaload), (938, 1, .aload_n 0), (939, 2, .iload 4), (941, 1, .iconst 2), (942, 1, .iadd), (943, 1, .iaload), (944, 3, .invokevirtual 110), (947, 3, .if_icmp .eq 766), (950, 1, .iconst 0), (951, 1, .ireturn), (952, 1, .aload_n 1), (953, 1, .aload_n 0), (954, 2, .iload 4), (956, 1, .iconst 1), (957, 1, .iadd), (958, 1, .iaload), (959, 3, .invokevirtual 111), (962, 1, .aload_n 2), (963, 1, .aload_n 0), (964, 2, .iload 4), (966, 1, .iconst 1), (967, 1, .iadd), (968, 1, .iaload), (969, 3, .invokevirtual 114), (972, 3, .if_icmp .eq 741), (975, 1, .iconst 0), (976, 1, .ireturn), (977, 1, .aload_n 1), (978, 1, .aload_n 0)]
def nm_lc14 : List (Nat × Nat × Instr) := [(979, 2, .iload 4), (981, 1, .iconst 1), (982, 1, .iadd), (983, 1, .iaload), (984, 3, .invokevirtual 115), (987, 1, .aload_n 2), (988, 1, .aload_n 0), (989, 2, .iload 4), (991, 1, .iconst 1), (992, 1, .iadd), (993, 1, .iaload), (994, 3, .invokevirtual 118), (997, 3, .if_icmp .eq 716), (1000, 1, .iconst 0), (1001, 1, .ireturn), (1002, 1, .aload_n 1), (1003, 1, .aload_n 0), (1004, 2, .iload 4), (1006, 1, .iconst 1), (1007, 1, .iadd), (1008, 1, .iaload), (1009, 3, .invokevirtual 119), (1012, 1, .aload_n 2), (1013, 1, .aload_n 0), (1014, 2, .iload 4), (1016, 1, .iconst 1), (1017, 1, .iadd), (1018, 1, .iaload), (1019, 3, .invokevirtual 122), (1022, 3, .if_icmp .eq 691), (1025, 1, .iconst 0), (1026, 1, .ireturn), (1027, 1, .aload_n 1), (1028, 1, .aload_n 0), (1029, 2, .iload 4), (1031, 1, .iconst 1), (1032, 1, .iadd), (1033, 1, .iaload), (1034, 3, .invokevirtual 123), (1037, 1, .aload_n 2)]
def nm_lc15 : List (Nat × Nat × Instr) := [(1038, 1, .aload_n 0), (1039, 2, .iload 4), (1041, 1, .iconst 1), (1042, 1, .iadd), (1043, 1, .iaload), (1044, 3, .invokevirtual 126), (1047, 3, .if_icmp .eq 666), (1050, 1, .iconst 0), (1051, 1, .ireturn), (1052, 1, .aload_n 1), (1053, 1, .aload_n 0), (1054, 2, .iload 4), (1056, 1, .iconst 1), (1057, 1, .iadd), (1058, 1, .iaload), (1059, 1, .aload_n 0), (1060, 2, .iload 4), (1062, 1, .iconst 2), (1063, 1, .iadd), (1064, 1, .iaload), (1065, 3, .invokevirtual 127), (1068, 1, .aload_n 2), (1069, 1, .aload_n 0), (1070, 2, .iload 4), (1072, 1, .iconst 1), (1073, 1, .iadd), (1074, 1, .iaload), (1075, 1, .aload_n 0), (1076, 2, .iload 4), (1078, 1, .iconst 2), (1079, 1, .iadd), (1080, 1, .iaload), (1081, 3, .invokevirtual 130), (1084, 3, .if_icmp .eq 629), (1087, 1, .iconst 0), (1088, 1, .ireturn), (1089, 1, .aload_n 1), (1090, 1, .aload_n 0), (1091, 2, .iload 4), (1093, 1, .iconst 1)]
def nm_lc16 : List (Nat × Nat × Instr) := [(1094, 1, .iadd), (1095, 1, .iaload), (1096, 3, .invokevirtual 131), (1099, 1, .aload_n 2), (1100, 1, .aload_n 0), (1101, 2, .iload 4), (1103, 1, .iconst 1), (1104, 1, .iadd), (1105, 1, .iaload), (1106, 3, .invokevirtual 134), (1109, 3, .if_icmp .eq 604), (1112, 1, .iconst 0), (1113, 1, .ireturn), (1114, 1, .aload_n 1), (1115, 1, .aload_n 0), (1116, 2, .iload 4), (1118, 1, .iconst 1), (1119, 1, .iadd), (1120, 1, .iaload), (1121, 1, .aload_n 0), (1122, 2, .iload 4), (1124, 1, .iconst 2), (1125, 1, .iadd), (1126, 1, .iaload), (1127, 3, .invokevirtual 135), (1130, 1, .aload_n 2), (1131, 1, .aload_n 0), (1132, 2, .iload 4), (1134, 1, .iconst 1), (1135, 1, .iadd), (1136, 1, .iaload), (1137, 1, .aload_n 0), (1138, 2, .iload 4), (1140, 1, .iconst 2), (1141, 1, .iadd), (1142, 1, .iaload), (1143, 3, .invokevirtual 138), (1146, 3, .if_icmp .eq 567), (1149, 1, .iconst 0), (1150, 1, .ireturn)]
def nm_lc17 : List (Nat × Nat × Instr) := [(1151, 1, .aload_n 1), (1152, 1, .aload_n 0), (1153, 2, .iload 4), (1155, 1, .iconst 1), (1156, 1, .iadd), (1157, 1, .iaload), (1158, 1, .aload_n 0), (1159, 2, .iload 4), (1161, 1, .iconst 2), (1162, 1, .iadd), (1163, 1, .iaload), (1164, 3, .invokevirtual 139), (1167, 1, .aload_n 2), (1168, 1, .aload_n 0), (1169, 2, .iload 4), (1171, 1, .iconst 1), (1172, 1, .iadd), (1173, 1, .iaload), (1174, 1, .aload_n 0), (1175, 2, .iload 4), (1177, 1, .iconst 2), (1178, 1, .iadd), (1179, 1, .iaload), (1180, 3, .invokevirtual 142), (1183, 3, .if_icmp .eq 530), (1186, 1, .iconst 0), (1187, 1, .ireturn), (1188, 1, .aload_n 1), (1189, 3, .invokevirtual 143), (1192, 1, .aload_n 2), (1193, 3, .invokevirtual 146), (1196, 3, .if_icmp .eq 517), (1199, 1, .iconst 0), (1200, 1, .ireturn), (1201, 1, .aload_n 1), (1202, 1, .aload_n 0), (1203, 2, .iload 4), (1205, 1, .iconst 1), (1206, 1, .iadd), (1207, 1, .iaload)]
def nm_lc18 : List (Nat × Nat × Instr) := [(1208, 1, .aload_n 0), (1209, 2, .iload 4), (1211, 1, .iconst 2), (1212, 1, .iadd), (1213, 1, .iaload), (1214, 1, .aload_n 0), (1215, 2, .iload 4), (1217, 1, .iconst 3), (1218, 1, .iadd), (1219, 1, .iaload), (1220, 1, .aload_n 0), (1221, 2, .iload 4), (1223, 1, .iconst 4), (1224, 1, .iadd), (1225, 1, .iaload), (1226, 1, .aload_n 0), (1227, 2, .iload 4), (1229, 1, .iconst 5), (1230, 1, .iadd), (1231, 1, .iaload), (1232, 3, .invokevirtual 147), (1235, 1, .aload_n 2), (1236, 1, .aload_n 0), (1237, 2, .iload 4), (1239, 1, .iconst 1), (1240, 1, .iadd), (1241, 1, .iaload), (1242, 1, .aload_n 0), (1243, 2, .iload 4), (1245, 1, .iconst 2), (1246, 1, .iadd), (1247, 1, .iaload), (1248, 1, .aload_n 0), (1249, 2, .iload 4), (1251, 1, .iconst 3), (1252, 1, .iadd), (1253, 1, .iaload), (1254, 1, .aload_n 0), (1255, 2, .iload 4), (1257, 1, .iconst 4)]
def nm_lc19 : List (Nat × Nat × Instr) := [(1258, 1, .iadd), (1259, 1, .iaload), (1260, 1, .aload_n 0), (1261, 2, .iload 4), (1263, 1, .iconst 5), (1264, 1, .iadd), (1265, 1, .iaload), (1266, 3, .invokevirtual 151), (1269, 3, .if_icmp .eq 444), (1272, 1, .iconst 0), (1273, 1, .ireturn), (1274, 1, .aload_n 1), (1275, 1, .aload_n 0), (1276, 2, .iload 4), (1278, 1, .iconst 1), (1279, 1, .iadd), (1280, 1, .iaload), (1281, 1, .aload_n 0), (1282, 2, .iload 4), (1284, 1, .iconst 2), (1285, 1, .iadd), (1286, 1, .iaload), (1287, 1, .aload_n 0), (1288, 2, .iload 4), (1290, 1, .iconst 3), (1291, 1, .iadd), (1292, 1, .iaload), (1293, 1, .aload_n 0), (1294, 2, .iload 4), (1296, 1, .iconst 4), (1297, 1, .iadd), (1298, 1, .iaload), (1299, 3, .invokevirtual 152), (1302, 1, .aload_n 2), (1303, 1, .aload_n 0), (1304, 2, .iload 4), (1306, 1, .iconst 1), (1307, 1, .iadd), (1308, 1, .iaload), (1309, 1, .aload_n 0)]
def nm_lc20 : List (Nat × Nat × Instr) := [(1310, 2, .iload 4), (1312, 1, .iconst 2), (1313, 1, .iadd), (1314, 1, .iaload), (1315, 1, .aload_n 0), (1316, 2, .iload 4), (1318, 1, .iconst 3), (1319, 1, .iadd), (1320, 1, .iaload), (1321, 1, .aload_n 0), (1322, 2, .iload 4), (1324, 1, .iconst 4), (1325, 1, .iadd), (1326, 1, .iaload), (1327, 3, .invokevirtual 155), (1330, 3, .if_icmp .eq 383), (1333, 1, .iconst 0), (1334, 1, .ireturn), (1335, 1, .aload_n 1), (1336, 1, .aload_n 0), (1337, 2, .iload 4), (1339, 1, .iconst 1), (1340, 1, .iadd), (1341, 1, .iaload), (1342, 1, .aload_n 0), (1343, 2, .iload 4), (1345, 1, .iconst 2), (1346, 1, .iadd), (1347, 1, .iaload), (1348, 1, .aload_n 0), (1349, 2, .iload 4), (1351, 1, .iconst 3), (1352, 1, .iadd), (1353, 1, .iaload), (1354, 1, .aload_n 0), (1355, 2, .iload 4), (1357, 1, .iconst 4), (1358, 1, .iadd), (1359, 1, .iaload), (1360, 3, .invokevirtual 156)]
def nm_lc21 : List (Nat × Nat × Instr) := [(1363, 1, .aload_n 2), (1364, 1, .aload_n 0), (1365, 2, .iload 4), (1367, 1, .iconst 1), (1368, 1, .iadd), (1369, 1, .iaload), (1370, 1, .aload_n 0), (1371, 2, .iload 4), (1373, 1, .iconst 2), (1374, 1, .iadd), (1375, 1, .iaload), (1376, 1, .aload_n 0), (1377, 2, .iload 4), (1379, 1, .iconst 3), (1380, 1, .iadd), (1381, 1, .iaload), (1382, 1, .aload_n 0), (1383, 2, .iload 4), (1385, 1, .iconst 4), (1386, 1, .iadd), (1387, 1, .iaload), (1388, 3, .invokevirtual 159), (1391, 3, .if_icmp .eq 322), (1394, 1, .iconst 0), (1395, 1, .ireturn), (1396, 1, .aload_n 1), (1397, 1, .aload_n 0), (1398, 2, .iload 4), (1400, 1, .iconst 1), (1401, 1, .iadd), (1402, 1, .iaload), (1403, 1, .aload_n 0), (1404, 2, .iload 4), (1406, 1, .iconst 2), (1407, 1, .iadd), (1408, 1, .iaload), (1409, 3, .invokevirtual 160), (1412, 1, .aload_n 2), (1413, 1, .aload_n 0), (1414, 2, .iload 4)]
def nm_lc22 : List (Nat × Nat × Instr) := [(1416, 1, .iconst 1), (1417, 1, .iadd), (1418, 1, .iaload), (1419, 1, .aload_n 0), (1420, 2, .iload 4), (1422, 1, .iconst 2), (1423, 1, .iadd), (1424, 1, .iaload), (1425, 3, .invokevirtual 163), (1428, 3, .if_icmp .eq 285), (1431, 1, .iconst 0), (1432, 1, .ireturn), (1433, 1, .aload_n 1), (1434, 1, .aload_n 0), (1435, 2, .iload 4), (1437, 1, .iconst 1), (1438, 1, .iadd), (1439, 1, .iaload), (1440, 1, .aload_n 0), (1441, 2, .iload 4), (1443, 1, .iconst 2), (1444, 1, .iadd), (1445, 1, .iaload), (1446, 3, .invokevirtual 164), (1449, 1, .aload_n 2), (1450, 1, .aload_n 0), (1451, 2, .iload 4), (1453, 1, .iconst 1), (1454, 1, .iadd), (1455, 1, .iaload), (1456, 1, .aload_n 0), (1457, 2, .iload 4), (1459, 1, .iconst 2), (1460, 1, .iadd), (1461, 1, .iaload), (1462, 3, .invokevirtual 167), (1465, 3, .if_icmp .eq 248), (1468, 1, .iconst 0), (1469, 1, .ireturn), (1470, 1, .aload_n 1)]
def nm_lc23 : List (Nat × Nat × Instr) := [(1471, 1, .aload_n 0), (1472, 2, .iload 4), (1474, 1, .iconst 1), (1475, 1, .iadd), (1476, 1, .iaload), (1477, 3, .invokevirtual 168), (1480, 1, .aload_n 2), (1481, 1, .aload_n 0), (1482, 2, .iload 4), (1484, 1, .iconst 1), (1485, 1, .iadd), (1486, 1, .iaload), (1487, 3, .invokevirtual 171), (1490, 3, .if_icmp .eq 223), (1493, 1, .iconst 0), (1494, 1, .ireturn), (1495, 1, .aload_n 1), (1496, 3, .invokevirtual 172), (1499, 1, .aload_n 2), (1500, 3, .invokevirtual 175), (1503, 3, .if_icmp .eq 210), (1506, 1, .iconst 0), (1507, 1, .ireturn), (1508, 1, .aload_n 1), (1509, 1, .aload_n 0), (1510, 2, .iload 4), (1512, 1, .iconst 1), (1513, 1, .iadd), (1514, 1, .iaload), (1515, 1, .aload_n 0), (1516, 2, .iload 4), (1518, 1, .iconst 2), (1519, 1, .iadd), (1520, 1, .iaload), (1521, 3, .invokevirtual 176), (1524, 1, .aload_n 2), (1525, 1, .aload_n 0), (1526, 2, .iload 4), (1528, 1, .iconst 1), (1529, 1, .iadd)]
def nm_lc24 : List (Nat × Nat × Instr) := [(1530, 1, .iaload), (1531, 1, .aload_n 0), (1532, 2, .iload 4), (1534, 1, .iconst 2), (1535, 1, .iadd), (1536, 1, .iaload), (1537, 3, .invokevirtual 179), (1540, 3, .if_icmp .eq 173), (1543, 1, .iconst 0), (1544, 1, .ireturn), (1545, 1, .aload_n 1), (1546, 3, .invokevirtual 180), (1549, 1, .aload_n 2), (1550, 3, .invokevirtual 183), (1553, 3, .if_icmp .eq 160), (1556, 1, .iconst 0), (1557, 1, .ireturn), (1558, 1, .aload_n 1), (1559, 1, .aload_n 0), (1560, 2, .iload 4), (1562, 1, .iconst 1), (1563, 1, .iadd), (1564, 1, .iaload), (1565, 3, .invokevirtual 184), (1568, 1, .aload_n 2), (1569, 1, .aload_n 0), (1570, 2, .iload 4), (1572, 1, .iconst 1), (1573, 1, .iadd), (1574, 1, .iaload), (1575, 3, .invokevirtual 187), (1578, 3, .if_icmp .eq 135), (1581, 1, .iconst 0), (1582, 1, .ireturn), (1583, 1, .aload_n 1), (1584, 1, .aload_n 0), (1585, 2, .iload 4), (1587, 1, .iconst 1), (1588, 1, .iadd), (1589, 1, .iaload)]
def nm_lc25 : List (Nat × Nat × Instr) := [(1590, 3, .invokevirtual 188), (1593, 1, .aload_n 2), (1594, 1, .aload_n 0), (1595, 2, .iload 4), (1597, 1, .iconst 1), (1598, 1, .iadd), (1599, 1, .iaload), (1600, 3, .invokevirtual 191), (1603, 3, .if_icmp .eq 110), (1606, 1, .iconst 0), (1607, 1, .ireturn), (1608, 1, .aload_n 1), (1609, 1, .aload_n 0), (1610, 2, .iload 4), (1612, 1, .iconst 1), (1613, 1, .iadd), (1614, 1, .iaload), (1615, 3, .invokevirtual 192), (1618, 1, .aload_n 2), (1619, 1, .aload_n 0), (1620, 2, .iload 4), (1622, 1, .iconst 1), (1623, 1, .iadd), (1624, 1, .iaload), (1625, 3, .invokevirtual 195), (1628, 3, .if_icmp .eq 85), (1631, 1, .iconst 0), (1632, 1, .ireturn), (1633, 1, .aload_n 1), (1634, 1, .aload_n 0), (1635, 2, .iload 4), (1637, 1, .iconst 1), (1638, 1, .iadd), (1639, 1, .iaload), (1640, 3, .invokevirtual 196), (1643, 1, .aload_n 2), (1644, 1, .aload_n 0), (1645, 2, .iload 4), (1647, 1, .iconst 1), (1648, 1, .iadd)]
def nm_lc26 : List (Nat × Nat × Instr) := [(1649, 1, .iaload), (1650, 3, .invokevirtual 199), (1653, 3, .if_icmp .eq 60), (1656, 1, .iconst 0), (1657, 1, .ireturn), (1658, 1, .aload_n 1), (1659, 1, .aload_n 0), (1660, 2, .iload 4), (1662, 1, .iconst 1), (1663, 1, .iadd), (1664, 1, .iaload), (1665, 1, .aload_n 3), (1666, 3, .invokestatic 200), (1669, 2, .istore 5), (1671, 1, .aload_n 2), (1672, 1, .aload_n 0), (1673, 2, .iload 4), (1675, 1, .iconst 1), (1676, 1, .iadd), (1677, 1, .iaload), (1678, 3, .invokevirtual 205), (1681, 2, .lstore 6), (1683, 1, .aload_n 2), (1684, 3, .invokevirtual 206), (1687, 2, .iload 5), (1689, 3, .if_icmp .eq 5), (1692, 1, .iconst 0), (1693, 1, .ireturn), (1694, 2, .iload 5), (1696, 3, .ifCond .ne 14), (1699, 1, .aload_n 3), (1700, 1, .iconst 0), (1701, 1, .laload), (1702, 2, .lload 6), (1704, 1, .lcmp), (1705, 3, .ifCond .eq 5), (1708, 1, .iconst 0), (1709, 1, .ireturn), (1710, 3, .goto 3), (1713, 3, .iinc 4 6)]
def nm_lc27 : List (Nat × Nat × Instr) := [(1716, 3, .goto (-1693)), (1719, 1, .iconst 1), (1720, 1, .ireturn)]
def nm_law : px_M := (⟨"NamesInBagsLaw", "law", "([I)Z"⟩, code, 8, (some .boolean), { frames := 12, cells := 600002, slots := 7302232, locals := 488 }, nm_lc0 ++ (nm_lc1 ++ (nm_lc2 ++ (nm_lc3 ++ (nm_lc4 ++ (nm_lc5 ++ (nm_lc6 ++ (nm_lc7 ++ (nm_lc8 ++ (nm_lc9 ++ (nm_lc10 ++ (nm_lc11 ++ (nm_lc12 ++ (nm_lc13 ++ (nm_lc14 ++ (nm_lc15 ++ (nm_lc16 ++ (nm_lc17 ++ (nm_lc18 ++ (nm_lc19 ++ (nm_lc20 ++ (nm_lc21 ++ (nm_lc22 ++ (nm_lc23 ++ (nm_lc24 ++ (nm_lc25 ++ (nm_lc26 ++ (nm_lc27))))))))))))))))))))))))))), [(8, 5, 8, 0, 0), (15, 8, 65, 0, 8), (16, 5, 9, 0, 0), (18, 8, 224, 0, 9), (19, 1, 66, 1, 8), (23, 1, 134, 1, 9), (24, 1, 68, 2, 8), (28, 1, 135, 2, 9), (29, 1, 69, 3, 8), (33, 1, 136, 3, 9), (34, 1, 70, 2, 8), (37, 1, 137, 2, 9), (38, 1, 72, 4, 8), (42, 1, 138, 4, 9), (43, 1, 74, 2, 8), (46, 1, 140, 2, 9), (47, 1, 75, 2, 8), (51, 1, 141, 2, 9), (52, 1, 76, 3, 8), (56, 1, 142, 3, 9), (57, 1, 77, 1, 8), (60, 1, 143, 1, 9), (61, 1, 78, 1, 8), (65, 1, 144, 1, 9), (66, 1, 80, 0, 8), (70, 1, 148, 0, 9), (71, 1, 81, 1, 8), (74, 1, 149, 1, 9), (75, 1, 84, 1, 8), (78, 1, 165, 1, 9), (79, 1, 86, 0, 8), (82, 1, 166, 0, 9), (83, 4, 0, 0, 4294967295), (85, 1, 90, 2, 8), (89, 1, 168, 2, 9), (90, 1, 91, 2, 8), (94, 1, 169, 2, 9), (95, 1, 92, 0, 8), (98, 1, 170, 0, 9), (99, 1, 93, 2, 8), (102, 1, 171, 2, 9), (103, 1, 94, 1, 8), (106, 1, 172, 1, 9), (107, 1, 97, 2, 8), (110, 1, 189, 2, 9), (111, 1, 98, 1, 8), (114, 1, 190, 1, 9), (115, 1, 99, 1, 8), (118, 1, 191, 1, 9), (119, 1, 100, 1, 8), (122, 1, 193, 1, 9), (123, 1, 101, 1, 8), (126, 1, 194, 1, 9), (127, 1, 102, 2, 8), (130, 1, 196, 2, 9), (131, 1, 103, 1, 8), (134, 1, 197, 1, 9), (135, 1, 104, 2, 8), (138, 1, 200, 2, 9), (139, 1, 105, 2, 8), (142, 1, 201, 2, 9), (143, 1, 106, 0, 8), (146, 1, 202, 0, 9), (147, 1, 112, 5, 8), (151, 1, 206, 5, 9), (152, 1, 113, 4, 8), (155, 1, 207, 4, 9), (156, 1, 114, 4, 8), (159, 1, 209, 4, 9), (160, 1, 115, 2, 8), (163, 1, 210, 2, 9), (164, 1, 116, 2, 8), (167, 1, 212, 2, 9), (168, 1, 117, 1, 8), (171, 1, 213, 1, 9), (172, 1, 118, 0, 8), (175, 1, 214, 0, 9), (176, 1, 120, 2, 8), (179, 1, 217, 2, 9), (180, 1, 121, 0, 8), (183, 1, 218, 0, 9), (184, 1, 122, 1, 8), (187, 1, 219, 1, 9), (188, 1, 123, 1, 8), (191, 1, 220, 1, 9), (192, 1, 124, 1, 8), (195, 1, 221, 1, 9), (196, 1, 125, 1, 8), (199, 1, 223, 1, 9), (205, 1, 225, 1, 9), (206, 1, 127, 0, 9), (100017, 6, 62, 0, 0)])
def nm_P : List px_M := [nm_m0, nm_m1, nm_m2, nm_m3, nm_m4, nm_m5, nm_m6, nm_m7, nm_m8, nm_m9, nm_m10, nm_m11, nm_m12, nm_m13, nm_m14, nm_m15, nm_m16, nm_m17, nm_m18, nm_m19, nm_m20, nm_m21, nm_m22, nm_m23, nm_m24, nm_m25, nm_m26, nm_m27, nm_m28, nm_m29, nm_m30, nm_m31, nm_m32, nm_m33, nm_m34, nm_m35, nm_m36, nm_m37, nm_m38, nm_m39, nm_m40, nm_m41, nm_m42, nm_m43, nm_m44, nm_m45, nm_m46, nm_m47, nm_m48, nm_m49, nm_m50, nm_m51, nm_m52, nm_m53, nm_m54, nm_m55, nm_m56, nm_m57, nm_m58, nm_m59, nm_m60, nm_m61, nm_m62, nm_m63, nm_m64, nm_m65, nm_m66, nm_m67, nm_m68, nm_m69, nm_m70, nm_m71, nm_m72, nm_m73, nm_m74, nm_m75, nm_m76, nm_m77, nm_m78, nm_m79, nm_m80, nm_m81, nm_m82, nm_m83, nm_m84, nm_m85, nm_m86, nm_m87, nm_m88, nm_m89, nm_m90, nm_m91, nm_m92, nm_m93, nm_m94, nm_m95, nm_m96, nm_m97, nm_m98, nm_m99, nm_m100, nm_m101, nm_m102, nm_m103, nm_m104, nm_m105, nm_m106, nm_m107, nm_m108, nm_m109, nm_m110, nm_m111, nm_m112, nm_m113, nm_m114, nm_m115, nm_m116, nm_m117, nm_m118, nm_m119, nm_m120, nm_m121, nm_m122, nm_m123, nm_m124, nm_m125, nm_m126, nm_m127, nm_m128, nm_m129, nm_m130, nm_m131, nm_m132, nm_m133, nm_m134, nm_m135, nm_m136, nm_m137, nm_m138, nm_m139, nm_m140, nm_m141, nm_m142, nm_m143, nm_m144, nm_m145, nm_m146, nm_m147, nm_m148, nm_m149, nm_m150, nm_m151, nm_m152, nm_m153, nm_m154, nm_m155, nm_m156, nm_m157, nm_m158, nm_m159, nm_m160, nm_m161, nm_m162, nm_m163, nm_m164, nm_m165, nm_m166, nm_m167, nm_m168, nm_m169, nm_m170, nm_m171, nm_m172, nm_m173, nm_m174, nm_m175, nm_m176, nm_m177, nm_m178, nm_m179, nm_m180, nm_m181, nm_m182, nm_m183, nm_m184, nm_m185, nm_m186, nm_m187, nm_m188, nm_m189, nm_m190, nm_m191, nm_m192, nm_m193, nm_m194, nm_m195, nm_m196, nm_m197, nm_m198, nm_m199, nm_m200, nm_m201, nm_m202, nm_m203, nm_m204, nm_m205, nm_m206, nm_m207, nm_m208, nm_m209, nm_m210, nm_m211, nm_m212, nm_m213, nm_m214, nm_m215, nm_m216, nm_m217, nm_m218, nm_m219, nm_m220, nm_m221, nm_m222, nm_m223, nm_m224, nm_m225]
def nm_ow : List String := ["NamesInBags$Chest", "NamesInBags$Course", "java/lang/Integer", "NamesInBags$Rule", "NamesInBags$Town", "NamesInBags$Row", "NamesInBags$Table", "NamesInBags$Text", "NamesInBags$Walk", "NamesInBags", "NamesInBagsModel", "NamesInBagsLaw"]
def nm_mf : List (Nat × Nat × Nat) := [(2, 0, 0), (1, 1, 0), (1, 2, 0), (1, 2, 0), (1, 2, 0), (1, 1, 0), (1, 1, 1), (1, 2, 1), (1, 3, 1), (1, 1, 1), (1, 1, 0), (0, 1, 0), (1, 1, 0), (1, 2, 0), (1, 1, 0), (2, 0, 3), (2, 1, 1), (1, 4, 1), (1, 1, 6), (1, 1, 6), (1, 1, 6), (1, 1, 6), (1, 1, 6), (1, 1, 1), (1, 2, 1), (1, 3, 1), (2, 0, 2), (1, 0, 2), (1, 1, 2), (1, 1, 2), (1, 1, 3), (2, 0, 4), (0, 2, 4), (1, 0, 4), (1, 3, 4), (1, 1, 4), (2, 0, 5), (1, 1, 5), (1, 1, 5), (0, 2, 5), (1, 0, 5), (2, 0, 6), (1, 1, 6), (1, 3, 6), (1, 0, 6), (1, 0, 6), (1, 1, 6), (1, 1, 6), (2, 0, 7), (1, 1, 7), (1, 1, 7), (1, 2, 7), (1, 1, 7), (1, 2, 7), (1, 1, 7), (1, 0, 7), (1, 1, 7), (0, 2, 8), (1, 2, 7), (1, 1, 7), (1, 1, 7), (1, 1, 7), (1, 0, 7), (1, 0, 7), (1, 1, 7), (2, 0, 8), (1, 1, 8), (0, 1, 8), (1, 2, 8), (1, 3, 8), (1, 2, 8), (0, 2, 8), (1, 4, 8), (0, 1, 8), (1, 2, 8), (1, 2, 8), (1, 3, 8), (1, 1, 8), (1, 1, 8), (1, 1, 8), (1, 0, 8), (1, 1, 8), (1, 0, 8), (1, 0, 8), (1, 1, 8), (1, 1, 8), (1, 0, 8), (0, 2, 8), (0, 2, 8), (1, 2, 8), (1, 2, 8), (1, 2, 8), (1, 0, 8), (1, 2, 8), (1, 1, 8), (1, 1, 8), (1, 3, 8), (1, 2, 8), (1, 1, 8), (1, 1, 8), (1, 1, 8), (1, 1, 8), (1, 2, 8), (1, 1, 8), (1, 2, 8), (1, 2, 8), (1, 0, 8), (1, 2, 8), (0, 1, 8), (1, 3, 8), (1, 2, 8), (1, 3, 8), (1, 5, 8), (1, 4, 8), (1, 4, 8), (1, 2, 8), (1, 2, 8), (1, 1, 8), (1, 0, 8), (1, 0, 8), (1, 2, 8), (1, 0, 8), (1, 1, 8), (1, 1, 8), (1, 1, 8), (1, 1, 8), (1, 1, 8), (1, 0, 9), (0, 3, 9), (0, 2, 9), (0, 1, 9), (1, 1, 9), (1, 1, 9), (1, 1, 9), (1, 1, 9), (1, 2, 9), (1, 3, 9), (1, 2, 9), (1, 4, 9), (0, 1, 9), (1, 2, 9), (1, 2, 9), (1, 3, 9), (1, 1, 9), (1, 1, 9), (1, 1, 9), (1, 0, 9), (1, 1, 9), (1, 0, 9), (1, 1, 9), (1, 2, 9), (1, 3, 9), (1, 2, 9), (1, 1, 9), (1, 1, 9), (1, 2, 9), (1, 1, 9), (1, 0, 9), (1, 0, 9), (1, 0, 9), (1, 2, 9), (1, 0, 9), (1, 0, 9), (1, 1, 9), (0, 2, 9), (1, 1, 9), (1, 0, 9), (1, 2, 9), (1, 2, 9), (1, 2, 9), (1, 0, 9), (1, 2, 9), (1, 1, 9), (1, 1, 9), (0, 2, 9), (1, 2, 9), (1, 2, 9), (1, 1, 9), (1, 2, 9), (1, 2, 9), (1, 1, 9), (1, 1, 9), (1, 1, 9), (1, 2, 9), (1, 1, 9), (1, 1, 9), (1, 1, 9), (1, 1, 9), (1, 1, 9), (1, 2, 9), (1, 1, 9), (1, 1, 9), (1, 1, 9), (1, 1, 9), (1, 1, 9), (1, 1, 9), (1, 2, 9), (1, 1, 9), (1, 0, 9), (1, 0, 9), (1, 2, 9), (1, 2, 9), (1, 0, 9), (1, 3, 9), (1, 3, 9), (1, 3, 9), (1, 5, 9), (1, 4, 9), (1, 1, 9), (1, 4, 9), (1, 2, 9), (1, 1, 9), (1, 2, 9), (1, 1, 9), (1, 0, 9), (1, 1, 9), (1, 2, 9), (1, 2, 9), (1, 0, 9), (1, 1, 9), (1, 1, 9), (1, 1, 9), (1, 0, 9), (1, 1, 9), (2, 0, 9), (1, 1, 9)]
end
section
abbrev nm_w : px_Cw → Cond := px_w nm_ow nm_cl nm_T nm_P "NamesInBags"
theorem nm_in_of {l L : List Cond} (ps : List Nat) (ws : List px_Cw) (h : ps.map (fun i => l[i]?) = ws.map (fun q => some (nm_w q))) (hl : ∀ w ∈ l, w ∈ L) : ∀ q ∈ ws, nm_w q ∈ L := by
  intro w hw
  have h1 : some (nm_w w) ∈ ws.map (fun q => some (nm_w q)) := List.mem_map.mpr ⟨w, hw, rfl⟩
  rw [← h] at h1
  obtain ⟨i, -, hi⟩ := List.mem_map.mp h1
  exact hl _ (List.mem_of_getElem? hi)
theorem nm_sels : k2_sels lw_privs = k2_sels lw_privs_1 ++ (k2_sels lw_privs_2 ++ (k2_sels lw_privs_3 ++ (k2_sels lw_privs_4 ++ (k2_sels lw_privs_5)))) := by
  simp only [lw_privs, k2_sels, List.map_append]
theorem nm_s1_in : ∀ w ∈ k2_sels lw_privs_1, w ∈ lw_tbl := fun w h => List.mem_append_left _ (by rw [nm_sels]; exact List.mem_append_left _ h)
theorem nm_s2_in : ∀ w ∈ k2_sels lw_privs_2, w ∈ lw_tbl := fun w h => List.mem_append_left _ (by rw [nm_sels]; exact List.mem_append_right _ (List.mem_append_left _ h))
theorem nm_s3_in : ∀ w ∈ k2_sels lw_privs_3, w ∈ lw_tbl := fun w h => List.mem_append_left _ (by rw [nm_sels]; exact List.mem_append_right _ (List.mem_append_right _ (List.mem_append_left _ h)))
theorem nm_s4_in : ∀ w ∈ k2_sels lw_privs_4, w ∈ lw_tbl := fun w h => List.mem_append_left _ (by rw [nm_sels]; exact List.mem_append_right _ (List.mem_append_right _ (List.mem_append_right _ (List.mem_append_left _ h))))
theorem nm_s5_in : ∀ w ∈ k2_sels lw_privs_5, w ∈ lw_tbl := fun w h => List.mem_append_left _ (by rw [nm_sels]; exact List.mem_append_right _ (List.mem_append_right _ (List.mem_append_right _ (List.mem_append_right _ (h)))))
theorem nm_t1_in : ∀ w ∈ tables_1_1, w ∈ lw_tbl := fun w h => List.mem_append_right _ (show w ∈ tables_1 from List.mem_append_left _ h)
theorem nm_t2_in : ∀ w ∈ tables_1_2, w ∈ lw_tbl := fun w h => List.mem_append_right _ (show w ∈ tables_1 from List.mem_append_right _ (List.mem_append_left _ h))
theorem nm_t3_in : ∀ w ∈ tables_1_3, w ∈ lw_tbl := fun w h => List.mem_append_right _ (show w ∈ tables_1 from List.mem_append_right _ (List.mem_append_right _ (List.mem_append_left _ h)))
theorem nm_t4_in : ∀ w ∈ tables_1_4, w ∈ lw_tbl := fun w h => List.mem_append_right _ (show w ∈ tables_1 from List.mem_append_right _ (List.mem_append_right _ (List.mem_append_right _ (List.mem_append_left _ h))))
theorem nm_t5_in : ∀ w ∈ tables_1_5, w ∈ lw_tbl := fun w h => List.mem_append_right _ (show w ∈ tables_1 from List.mem_append_right _ (List.mem_append_right _ (List.mem_append_right _ (List.mem_append_right _ (List.mem_append_left _ h)))))
theorem nm_t6_in : ∀ w ∈ tables_1_6, w ∈ lw_tbl := fun w h => List.mem_append_right _ (show w ∈ tables_1 from List.mem_append_right _ (List.mem_append_right _ (List.mem_append_right _ (List.mem_append_right _ (List.mem_append_right _ (List.mem_append_left _ h))))))
theorem nm_t7_in : ∀ w ∈ tables_1_7, w ∈ lw_tbl := fun w h => List.mem_append_right _ (show w ∈ tables_1 from List.mem_append_right _ (List.mem_append_right _ (List.mem_append_right _ (List.mem_append_right _ (List.mem_append_right _ (List.mem_append_right _ (h)))))))
def nm_C0_0 : List px_Cw := [(13, [0, 3], 0), (14, [], 0), (15, [], 0), (0, [0, 9, 0, 0], 0), (0, [0, 15, 0, 1], 0), (0, [0, 19, 0, 2], 0), (6, [3], 0), (0, [0, 30, 1, 5], 0), (6, [5], 0), (0, [0, 39, 1, 0], 0), (0, [0, 43, 6, 7], 0), (0, [0, 49, 1, 2], 0), (6, [9], 0), (6, [11], 0), (0, [0, 61, 1, 6], 0), (0, [0, 64, 1, 11], 0), (0, [0, 67, 1, 4], 0), (0, [0, 70, 1, 12], 0), (0, [0, 73, 1, 13], 0)]
set_option maxRecDepth 1000000 in
theorem nm_C0_0_in : ∀ q ∈ nm_C0_0, nm_w q ∈ lw_tbl := nm_in_of (l := tables_1_1) [131, 23, 24, 132, 134, 137, 5, 164, 5, 155, 47, 158, 6, 12, 167, 174, 161, 176, 178] nm_C0_0 rfl nm_t1_in
def nm_C0_1 : List px_Cw := [(8, [0, 26], 1023), (8, [0, 28], (-1)), (2, [3], 0), (3, [3], 0), (5, [3], 0)]
set_option maxRecDepth 1000000 in
theorem nm_C0_1_in : ∀ q ∈ nm_C0_1, nm_w q ∈ lw_tbl := nm_in_of (l := tables_1_2) [156, 157, 155, 153, 154] nm_C0_1 rfl nm_t2_in
def nm_C0_2 : List px_Cw := [(1, [0, 22, 3], 0), (1, [0, 35, 5], 0), (2, [5], 0), (3, [5], 0), (5, [5], 0), (1, [0, 53, 9], 0), (2, [9], 0), (3, [9], 0), (5, [9], 0), (1, [0, 56, 11], 0), (2, [11], 0), (4, [11], 0)]
set_option maxRecDepth 1000000 in
theorem nm_C0_2_in : ∀ q ∈ nm_C0_2, nm_w q ∈ lw_tbl := nm_in_of (l := tables_1_3) [37, 38, 41, 39, 40, 42, 45, 43, 44, 54, 56, 55] nm_C0_2 rfl nm_t3_in
def nm_C0 : List px_Cw := nm_C0_0 ++ (nm_C0_1 ++ (nm_C0_2))
theorem nm_C0_in : ∀ q ∈ nm_C0, nm_w q ∈ lw_tbl := List.forall_mem_append.mpr ⟨nm_C0_0_in, List.forall_mem_append.mpr ⟨nm_C0_1_in, nm_C0_2_in⟩⟩
def nm_C1_0 : List px_Cw := [(5, [6], 0), (5, [7], 0), (5, [8], 0)]
set_option maxRecDepth 1000000 in
theorem nm_C1_0_in : ∀ q ∈ nm_C1_0, nm_w q ∈ lw_tbl := nm_in_of (l := k2_sels lw_privs_1) [4, 5, 3] nm_C1_0 rfl nm_s1_in
def nm_C1_1 : List px_Cw := [(0, [1, 25, 1, 0], 0), (0, [1, 75, 6, 0], 0), (0, [1, 22, 1, 10], 0), (0, [1, 42, 1, 4], 0), (0, [1, 12, 1, 1], 0), (0, [1, 103, 3, 0], 0), (6, [6], 0), (0, [1, 109, 3, 1], 0), (6, [7], 0), (0, [1, 66, 1, 8], 0), (0, [1, 72, 1, 9], 0), (0, [1, 84, 3, 3], 0), (6, [8], 0), (13, [1, 3], 0), (14, [], 0), (15, [], 0), (9, [1, 9, 3], 0), (10, [3], 0), (11, [3], 0), (2, [15], 0), (6, [15], 0), (3, [15], 0), (12, [3], 0), (0, [1, 18, 1, 2], 0), (12, [4], 0)]
set_option maxRecDepth 1000000 in
theorem nm_C1_1_in : ∀ q ∈ nm_C1_1, nm_w q ∈ lw_tbl := nm_in_of (l := tables_1_1) [154, 33, 172, 160, 156, 108, 6, 110, 6, 170, 171, 114, 6, 151, 23, 24, 152, 102, 4, 105, 4, 104, 83, 157, 83] nm_C1_1 rfl nm_t1_in
def nm_C1_2 : List px_Cw := [(0, [1, 29, 1, 3], 0), (6, [18], 0), (0, [1, 39, 6, 9], 0), (0, [1, 45, 6, 10], 0), (0, [1, 48, 1, 5], 0), (0, [1, 51, 6, 11], 0), (0, [1, 54, 1, 6], 0), (6, [19], 0), (0, [1, 60, 1, 7], 0), (6, [20], 0), (6, [21], 0), (0, [1, 78, 6, 1], 0), (6, [22], 0), (0, [1, 91, 1, 11], 0), (0, [1, 94, 1, 12], 0), (0, [1, 97, 1, 13], 0), (0, [1, 100, 3, 2], 0)]
set_option maxRecDepth 1000000 in
theorem nm_C1_2_in : ∀ q ∈ nm_C1_2, nm_w q ∈ lw_tbl := nm_in_of (l := tables_1_1) [159, 2, 52, 54, 162, 56, 166, 2, 168, 2, 2, 35, 2, 173, 175, 177, 112] nm_C1_2 rfl nm_t1_in
def nm_C1_3 : List px_Cw := [(1, [1, 33, 18], 0), (2, [18], 0), (3, [18], 0), (5, [18], 0), (1, [1, 56, 19], 0), (3, [19], 0), (5, [19], 0)]
set_option maxRecDepth 1000000 in
theorem nm_C1_3_in : ∀ q ∈ nm_C1_3, nm_w q ∈ lw_tbl := nm_in_of (l := tables_1_2) [233, 236, 234, 235, 237, 238, 239] nm_C1_3 rfl nm_t2_in
def nm_C1_4 : List px_Cw := [(1, [1, 106, 6], 0), (2, [6], 0), (3, [6], 0), (1, [1, 112, 7], 0), (2, [7], 0), (3, [7], 0), (1, [1, 87, 8], 0), (2, [8], 0), (3, [8], 0), (2, [19], 0), (1, [1, 63, 20], 0), (2, [20], 0), (3, [20], 0), (5, [20], 0), (1, [1, 69, 21], 0), (2, [21], 0), (3, [21], 0), (5, [21], 0), (1, [1, 81, 22], 0), (2, [22], 0), (3, [22], 0), (5, [22], 0)]
set_option maxRecDepth 1000000 in
theorem nm_C1_4_in : ∀ q ∈ nm_C1_4, nm_w q ∈ lw_tbl := nm_in_of (l := tables_1_3) [21, 24, 23, 25, 28, 27, 17, 20, 19, 0, 1, 4, 2, 3, 5, 8, 6, 7, 9, 12, 10, 11] nm_C1_4 rfl nm_t3_in
def nm_C1 : List px_Cw := nm_C1_0 ++ (nm_C1_1 ++ (nm_C1_2 ++ (nm_C1_3 ++ (nm_C1_4))))
theorem nm_C1_in : ∀ q ∈ nm_C1, nm_w q ∈ lw_tbl := List.forall_mem_append.mpr ⟨nm_C1_0_in, List.forall_mem_append.mpr ⟨nm_C1_1_in, List.forall_mem_append.mpr ⟨nm_C1_2_in, List.forall_mem_append.mpr ⟨nm_C1_3_in, nm_C1_4_in⟩⟩⟩⟩
def nm_C2_0 : List px_Cw := [(7, [2, 265], 1431655765), (7, [2, 266], 858993459), (7, [2, 267], 252645135)]
set_option maxRecDepth 1000000 in
theorem nm_C2_0_in : ∀ q ∈ nm_C2_0, nm_w q ∈ lw_tbl := nm_in_of (l := tables_1_3) [57, 58, 59] nm_C2_0 rfl nm_t3_in
def nm_C2 : List px_Cw := nm_C2_0
theorem nm_C2_in : ∀ q ∈ nm_C2, nm_w q ∈ lw_tbl := nm_C2_0_in
def nm_C3_0 : List px_Cw := [(13, [3, 3], 0), (14, [], 0), (15, [], 0), (12, [0], 0), (0, [3, 9, 3, 0], 0), (12, [1], 0), (0, [3, 15, 3, 1], 0), (12, [2], 0), (0, [3, 18, 3, 2], 0), (0, [3, 21, 3, 3], 0), (0, [3, 25, 5, 1], 0), (0, [3, 30, 5, 0], 0)]
set_option maxRecDepth 1000000 in
theorem nm_C3_0_in : ∀ q ∈ nm_C3_0, nm_w q ∈ lw_tbl := nm_in_of (l := tables_1_1) [106, 23, 24, 83, 107, 83, 109, 83, 111, 113, 94, 92] nm_C3_0 rfl nm_t1_in
def nm_C3 : List px_Cw := nm_C3_0
theorem nm_C3_in : ∀ q ∈ nm_C3, nm_w q ∈ lw_tbl := nm_C3_0_in
def nm_C4_0 : List px_Cw := [(0, [4, 47, 6, 8], 0), (0, [4, 43, 6, 0], 0), (0, [4, 24, 6, 5], 0), (0, [4, 15, 6, 2], 0), (0, [4, 18, 6, 3], 0), (0, [4, 21, 6, 4], 0), (0, [4, 9, 6, 1], 0), (13, [4, 3], 0), (14, [], 0), (15, [], 0), (12, [12], 0), (12, [13], 0), (12, [14], 0), (12, [15], 0), (12, [16], 0), (12, [17], 0), (0, [4, 27, 6, 6], 0), (12, [18], 0), (0, [4, 30, 6, 7], 0), (12, [19], 0), (0, [4, 34, 6, 9], 0), (12, [20], 0), (0, [4, 37, 6, 10], 0), (12, [21], 0), (0, [4, 40, 6, 11], 0)]
set_option maxRecDepth 1000000 in
theorem nm_C4_0_in : ∀ q ∈ nm_C4_0, nm_w q ∈ lw_tbl := nm_in_of (l := tables_1_1) [49, 31, 42, 36, 38, 40, 34, 30, 23, 24, 83, 83, 83, 83, 83, 83, 44, 84, 46, 83, 51, 83, 53, 83, 55] nm_C4_0 rfl nm_t1_in
def nm_C4 : List px_Cw := nm_C4_0
theorem nm_C4_in : ∀ q ∈ nm_C4, nm_w q ∈ lw_tbl := nm_C4_0_in
def nm_C5_0 : List px_Cw := [(14, [], 0), (15, [], 0), (6, [27], 0), (6, [28], 0)]
set_option maxRecDepth 1000000 in
theorem nm_C5_0_in : ∀ q ∈ nm_C5_0, nm_w q ∈ lw_tbl := nm_in_of (l := tables_1_1) [23, 24, 9, 9] nm_C5_0 rfl nm_t1_in
def nm_C5_1 : List px_Cw := [(13, [5, 3], 0), (12, [5], 0), (0, [5, 9, 2, 0], 0), (0, [5, 15, 2, 1], 0)]
set_option maxRecDepth 1000000 in
theorem nm_C5_1_in : ∀ q ∈ nm_C5_1, nm_w q ∈ lw_tbl := nm_in_of (l := tables_1_2) [34, 4, 35, 37] nm_C5_1 rfl nm_t2_in
def nm_C5_2 : List px_Cw := [(1, [5, 19, 27], 0), (2, [27], 0), (3, [27], 0), (5, [27], 0), (1, [5, 22, 28], 0), (2, [28], 0), (3, [28], 0), (5, [28], 0)]
set_option maxRecDepth 1000000 in
theorem nm_C5_2_in : ∀ q ∈ nm_C5_2, nm_w q ∈ lw_tbl := nm_in_of (l := tables_1_3) [195, 49, 47, 48, 196, 78, 76, 77] nm_C5_2 rfl nm_t3_in
def nm_C5 : List px_Cw := nm_C5_0 ++ (nm_C5_1 ++ (nm_C5_2))
theorem nm_C5_in : ∀ q ∈ nm_C5, nm_w q ∈ lw_tbl := List.forall_mem_append.mpr ⟨nm_C5_0_in, List.forall_mem_append.mpr ⟨nm_C5_1_in, nm_C5_2_in⟩⟩
def nm_C6_0 : List px_Cw := [(13, [6, 3], 0), (14, [], 0), (15, [], 0), (0, [6, 9, 4, 0], 0), (12, [7], 0), (0, [6, 15, 4, 1], 0), (0, [6, 19, 4, 2], 0), (12, [9], 0), (0, [6, 22, 4, 4], 0), (12, [10], 0), (0, [6, 25, 4, 5], 0), (0, [6, 28, 4, 3], 0), (6, [32], 0)]
set_option maxRecDepth 1000000 in
theorem nm_C6_0_in : ∀ q ∈ nm_C6_0, nm_w q ∈ lw_tbl := nm_in_of (l := tables_1_1) [219, 23, 24, 220, 83, 222, 224, 83, 229, 83, 230, 226, 8] nm_C6_0 rfl nm_t1_in
def nm_C6_1 : List px_Cw := [(12, [6], 0), (12, [8], 0)]
set_option maxRecDepth 1000000 in
theorem nm_C6_1_in : ∀ q ∈ nm_C6_1, nm_w q ∈ lw_tbl := nm_in_of (l := tables_1_2) [4, 4] nm_C6_1 rfl nm_t2_in
def nm_C6_2 : List px_Cw := [(8, [6, 36], (-7046029254386353131)), (8, [6, 38], (-4417276706812531889)), (8, [6, 40], 1609587929392839161), (1, [6, 32, 32], 0), (2, [32], 0), (4, [32], 0)]
set_option maxRecDepth 1000000 in
theorem nm_C6_2_in : ∀ q ∈ nm_C6_2, nm_w q ∈ lw_tbl := nm_in_of (l := tables_1_3) [147, 148, 149, 144, 146, 145] nm_C6_2 rfl nm_t3_in
def nm_C6 : List px_Cw := nm_C6_0 ++ (nm_C6_1 ++ (nm_C6_2))
theorem nm_C6_in : ∀ q ∈ nm_C6, nm_w q ∈ lw_tbl := List.forall_mem_append.mpr ⟨nm_C6_0_in, List.forall_mem_append.mpr ⟨nm_C6_1_in, nm_C6_2_in⟩⟩
def nm_C7_0 : List px_Cw := [(13, [7, 3], 0), (14, [], 0), (15, [], 0), (12, [11], 0), (0, [7, 9, 5, 0], 0), (0, [7, 15, 5, 1], 0), (6, [39], 0)]
set_option maxRecDepth 1000000 in
theorem nm_C7_0_in : ∀ q ∈ nm_C7_0, nm_w q ∈ lw_tbl := nm_in_of (l := tables_1_1) [90, 23, 24, 83, 91, 93, 3] nm_C7_0 rfl nm_t1_in
def nm_C7_1 : List px_Cw := [(1, [7, 19, 39], 0), (2, [39], 0), (4, [39], 0)]
set_option maxRecDepth 1000000 in
theorem nm_C7_1_in : ∀ q ∈ nm_C7_1, nm_w q ∈ lw_tbl := nm_in_of (l := tables_1_2) [202, 204, 203] nm_C7_1 rfl nm_t2_in
def nm_C7 : List px_Cw := nm_C7_0 ++ (nm_C7_1)
theorem nm_C7_in : ∀ q ∈ nm_C7, nm_w q ∈ lw_tbl := List.forall_mem_append.mpr ⟨nm_C7_0_in, nm_C7_1_in⟩
def nm_C8_0 : List px_Cw := [(5, [51], 0), (5, [50], 0), (5, [52], 0)]
set_option maxRecDepth 1000000 in
theorem nm_C8_0_in : ∀ q ∈ nm_C8_0, nm_w q ∈ lw_tbl := nm_in_of (l := k2_sels lw_privs_1) [12, 10, 11] nm_C8_0 rfl nm_s1_in
def nm_C8_1 : List px_Cw := [(13, [8, 3], 0), (14, [], 0), (15, [], 0), (9, [8, 9, 4], 0), (10, [4], 0), (11, [4], 0), (2, [31], 0), (6, [31], 0), (3, [31], 0), (10, [0], 0), (11, [0], 0), (2, [0], 0), (6, [0], 0), (3, [0], 0), (6, [33], 0), (0, [8, 34, 0, 0], 0), (0, [8, 38, 0, 1], 0), (6, [34], 0), (0, [8, 64, 4, 3], 0), (0, [8, 71, 4, 0], 0), (0, [8, 74, 4, 1], 0), (6, [2], 0), (6, [10], 0), (0, [8, 84, 4, 2], 0), (0, [8, 97, 1, 5], 0)]
set_option maxRecDepth 1000000 in
theorem nm_C8_1_in : ∀ q ∈ nm_C8_1, nm_w q ∈ lw_tbl := nm_in_of (l := tables_1_1) [213, 23, 24, 214, 215, 8, 218, 8, 217, 127, 5, 130, 5, 129, 8, 133, 135, 8, 227, 221, 223, 5, 5, 225, 163] nm_C8_1 rfl nm_t1_in
def nm_C8_2 : List px_Cw := [(6, [5], 0), (6, [11], 0), (6, [25], 0), (6, [13], 0), (6, [12], 0), (6, [14], 0), (6, [51], 0), (6, [23], 0), (6, [50], 0), (6, [52], 0), (6, [35], 0), (6, [57], 0), (6, [59], 0), (6, [56], 0), (25, [], 0)]
set_option maxRecDepth 1000000 in
theorem nm_C8_2_in : ∀ q ∈ nm_C8_2, nm_w q ∈ lw_tbl := nm_in_of (l := tables_1_1) [5, 12, 6, 5, 5, 5, 7, 6, 7, 7, 8, 1, 7, 7, 11] nm_C8_2 rfl nm_t1_in
def nm_C8_3 : List px_Cw := [(0, [8, 12, 7, 0], 0), (0, [8, 18, 7, 1], 0), (0, [8, 21, 7, 2], 0), (9, [8, 24, 0], 0), (0, [8, 27, 7, 3], 0), (0, [8, 58, 7, 4], 0), (0, [8, 61, 7, 5], 0), (2, [23], 0), (3, [23], 0), (5, [23], 0)]
set_option maxRecDepth 1000000 in
theorem nm_C8_3_in : ∀ q ∈ nm_C8_3, nm_w q ∈ lw_tbl := nm_in_of (l := tables_1_2) [7, 8, 9, 5, 11, 12, 14, 232, 230, 231] nm_C8_3 rfl nm_t2_in
def nm_C8_4 : List px_Cw := [(1, [8, 31, 33], 0), (2, [33], 0), (3, [33], 0), (5, [33], 0), (8, [8, 42], 1000000000000), (1, [8, 44, 34], 0), (2, [34], 0), (3, [34], 0), (5, [34], 0), (1, [8, 77, 2], 0), (2, [2], 0), (3, [2], 0), (5, [2], 0), (1, [8, 81, 10], 0), (2, [10], 0), (3, [10], 0), (5, [10], 0), (1, [8, 100, 5], 0), (2, [5], 0), (3, [5], 0), (5, [5], 0), (1, [8, 104, 11], 0), (2, [11], 0), (4, [11], 0), (1, [8, 109, 25], 0)]
set_option maxRecDepth 1000000 in
theorem nm_C8_4_in : ∀ q ∈ nm_C8_4, nm_w q ∈ lw_tbl := nm_in_of (l := tables_1_3) [140, 143, 141, 142, 150, 151, 154, 152, 153, 164, 167, 165, 166, 168, 36, 34, 35, 179, 41, 39, 40, 180, 56, 55, 181] nm_C8_4 rfl nm_t3_in
def nm_C8_5 : List px_Cw := [(2, [25], 0), (3, [25], 0), (5, [25], 0), (1, [8, 113, 13], 0), (2, [13], 0), (3, [13], 0), (5, [13], 0), (1, [8, 87, 12], 0), (2, [12], 0), (3, [12], 0), (5, [12], 0), (1, [8, 90, 14], 0), (2, [14], 0), (3, [14], 0), (5, [14], 0), (1, [8, 93, 51], 0), (2, [51], 0), (3, [51], 0), (1, [8, 48, 23], 0), (1, [8, 54, 50], 0), (2, [50], 0), (3, [50], 0), (1, [8, 67, 52], 0), (2, [52], 0), (3, [52], 0)]
set_option maxRecDepth 1000000 in
theorem nm_C8_5_in : ∀ q ∈ nm_C8_5, nm_w q ∈ lw_tbl := nm_in_of (l := tables_1_3) [70, 68, 69, 182, 74, 72, 73, 173, 53, 51, 52, 174, 82, 80, 81, 175, 178, 177, 159, 160, 163, 162, 169, 172, 171] nm_C8_5 rfl nm_t3_in
def nm_C8_6 : List px_Cw := [(1, [8, 116, 35], 0), (2, [35], 0), (3, [35], 0), (5, [35], 0), (2, [57], 0), (4, [57], 0), (1, [8, 123, 59], 0), (2, [59], 0), (3, [59], 0), (5, [59], 0), (2, [56], 0), (3, [56], 0), (5, [56], 0)]
set_option maxRecDepth 1000000 in
theorem nm_C8_6_in : ∀ q ∈ nm_C8_6, nm_w q ∈ lw_tbl := nm_in_of (l := tables_1_3) [187, 190, 188, 189, 123, 122, 218, 221, 219, 220, 186, 184, 185] nm_C8_6 rfl nm_t3_in
def nm_C8_7 : List px_Cw := [(8, [8, 127], (-1)), (1, [8, 129, 56], 0), (22, [8, 132, 2], 0), (23, [2], 0), (24, [2], 0), (22, [8, 138, 3], 0), (23, [3], 0), (24, [3], 0)]
set_option maxRecDepth 1000000 in
theorem nm_C8_7_in : ∀ q ∈ nm_C8_7, nm_w q ∈ lw_tbl := nm_in_of (l := tables_1_4) [64, 65, 66, 67, 68, 69, 70, 71] nm_C8_7 rfl nm_t4_in
def nm_C8 : List px_Cw := nm_C8_0 ++ (nm_C8_1 ++ (nm_C8_2 ++ (nm_C8_3 ++ (nm_C8_4 ++ (nm_C8_5 ++ (nm_C8_6 ++ (nm_C8_7)))))))
theorem nm_C8_in : ∀ q ∈ nm_C8, nm_w q ∈ lw_tbl := List.forall_mem_append.mpr ⟨nm_C8_0_in, List.forall_mem_append.mpr ⟨nm_C8_1_in, List.forall_mem_append.mpr ⟨nm_C8_2_in, List.forall_mem_append.mpr ⟨nm_C8_3_in, List.forall_mem_append.mpr ⟨nm_C8_4_in, List.forall_mem_append.mpr ⟨nm_C8_5_in, List.forall_mem_append.mpr ⟨nm_C8_6_in, nm_C8_7_in⟩⟩⟩⟩⟩⟩⟩
def nm_C9_0 : List px_Cw := [(5, [79], 0), (5, [82], 0), (5, [83], 0), (5, [85], 0), (5, [89], 0), (5, [95], 0), (5, [96], 0), (5, [107], 0), (5, [109], 0), (5, [111], 0)]
set_option maxRecDepth 1000000 in
theorem nm_C9_0_in : ∀ q ∈ nm_C9_0, nm_w q ∈ lw_tbl := nm_in_of (l := k2_sels lw_privs_1) [0, 1, 2, 6, 7, 8, 9, 13, 14, 15] nm_C9_0 rfl nm_s1_in
def nm_C9_1 : List px_Cw := [(5, [110], 0), (5, [119], 0)]
set_option maxRecDepth 1000000 in
theorem nm_C9_1_in : ∀ q ∈ nm_C9_1, nm_w q ∈ lw_tbl := nm_in_of (l := k2_sels lw_privs_2) [0, 1] nm_C9_1 rfl nm_s2_in
def nm_C9_2 : List px_Cw := [(13, [9, 3], 0), (14, [], 0), (15, [], 0), (9, [9, 9, 6], 0), (10, [6], 0), (11, [6], 0), (2, [41], 0), (6, [41], 0), (3, [41], 0), (9, [9, 16, 5], 0), (10, [5], 0), (11, [5], 0), (2, [36], 0), (6, [36], 0), (3, [36], 0), (9, [9, 23, 3], 0), (10, [3], 0), (11, [3], 0), (2, [15], 0), (6, [15], 0), (3, [15], 0), (17, [9, 23, 22], 0), (9, [9, 34, 0], 0), (10, [0], 0), (11, [0], 0)]
set_option maxRecDepth 1000000 in
theorem nm_C9_2_in : ∀ q ∈ nm_C9_2, nm_w q ∈ lw_tbl := nm_in_of (l := tables_1_1) [22, 23, 24, 25, 26, 2, 29, 2, 28, 85, 86, 3, 89, 3, 88, 101, 102, 4, 105, 4, 104, 101, 126, 127, 5] nm_C9_2 rfl nm_t1_in
def nm_C9_3 : List px_Cw := [(2, [0], 0), (6, [0], 0), (3, [0], 0), (9, [9, 44, 1], 0), (10, [1], 0), (11, [1], 0), (1, [9, 46, 16], 0), (2, [16], 0), (6, [16], 0), (3, [16], 0), (9, [9, 53, 7], 0), (10, [7], 0), (11, [7], 0), (2, [48], 0), (6, [48], 0), (3, [48], 0), (11, [2], 0), (6, [26], 0), (12, [23], 0), (17, [9, 34, 24], 0), (12, [25], 0), (12, [26], 0), (0, [9, 85, 6, 0], 0), (6, [42], 0), (6, [46], 0)]
set_option maxRecDepth 1000000 in
theorem nm_C9_3_in : ∀ q ∈ nm_C9_3, nm_w q ∈ lw_tbl := nm_in_of (l := tables_1_1) [130, 5, 129, 146, 147, 6, 148, 150, 6, 149, 208, 209, 7, 212, 7, 211, 9, 9, 83, 126, 83, 83, 32, 2, 2] nm_C9_3 rfl nm_t1_in
def nm_C9_4 : List px_Cw := [(6, [67], 0), (0, [9, 99, 6, 2], 0), (0, [9, 102, 6, 3], 0), (0, [9, 105, 6, 4], 0), (0, [9, 108, 6, 5], 0), (25, [], 0), (6, [45], 0), (6, [71], 0), (6, [73], 0), (6, [47], 0), (0, [9, 124, 6, 6], 0), (6, [3], 0), (0, [9, 131, 6, 7], 0), (0, [9, 135, 6, 8], 0), (6, [44], 0), (6, [43], 0), (6, [37], 0), (0, [9, 149, 5, 1], 0), (6, [38], 0), (6, [40], 0), (6, [30], 0), (0, [9, 345, 3, 3], 0), (6, [79], 0), (0, [9, 216, 0, 2], 0), (6, [17], 0)]
set_option maxRecDepth 1000000 in
theorem nm_C9_4_in : ∀ q ∈ nm_C9_4, nm_w q ∈ lw_tbl := nm_in_of (l := tables_1_1) [1, 37, 39, 41, 43, 11, 2, 1, 1, 2, 45, 5, 48, 50, 2, 2, 3, 95, 3, 3, 4, 115, 1, 138, 6] nm_C9_4 rfl nm_t1_in
def nm_C9_5 : List px_Cw := [(6, [23], 0), (6, [82], 0), (6, [83], 0), (0, [9, 169, 1, 7], 0), (0, [9, 172, 0, 1], 0), (6, [24], 0), (6, [11], 0), (6, [10], 0), (6, [27], 0), (6, [12], 0), (0, [9, 189, 1, 5], 0), (6, [5], 0), (6, [85], 0), (6, [25], 0), (6, [13], 0), (6, [28], 0), (6, [14], 0), (6, [87], 0), (6, [1], 0), (6, [88], 0), (6, [89], 0), (6, [4], 0), (6, [57], 0), (6, [49], 0), (6, [53], 0)]
set_option maxRecDepth 1000000 in
theorem nm_C9_5_in : ∀ q ∈ nm_C9_5, nm_w q ∈ lw_tbl := nm_in_of (l := tables_1_1) [6, 1, 1, 169, 136, 6, 12, 5, 9, 5, 165, 5, 1, 6, 5, 9, 5, 1, 5, 1, 1, 5, 1, 7, 7] nm_C9_5 rfl nm_t1_in
def nm_C9_6 : List px_Cw := [(6, [95], 0), (6, [96], 0), (6, [56], 0), (6, [29], 0), (6, [58], 0), (0, [9, 255, 6, 11], 0), (6, [60], 0), (6, [59], 0), (6, [22], 0), (0, [9, 278, 4, 3], 0), (6, [62], 0), (6, [63], 0), (6, [54], 0), (6, [55], 0), (6, [110], 0), (6, [107], 0), (6, [18], 0), (6, [108], 0), (6, [109], 0), (6, [111], 0), (6, [61], 0), (6, [64], 0), (6, [119], 0)]
set_option maxRecDepth 1000000 in
theorem nm_C9_6_in : ∀ q ∈ nm_C9_6, nm_w q ∈ lw_tbl := nm_in_of (l := tables_1_1) [1, 1, 7, 9, 7, 57, 7, 7, 2, 228, 7, 7, 7, 7, 1, 1, 2, 1, 1, 1, 7, 7, 1] nm_C9_6 rfl nm_t1_in
def nm_C9_7 : List px_Cw := [(0, [9, 12, 8, 0], 0), (0, [9, 19, 8, 1], 0), (0, [9, 26, 8, 2], 0), (0, [9, 30, 8, 3], 0), (0, [9, 37, 8, 5], 0), (0, [9, 41, 8, 6], 0), (0, [9, 49, 8, 7], 0), (0, [9, 56, 8, 8], 0), (9, [9, 60, 2], 0), (10, [2], 0), (2, [26], 0), (3, [26], 0), (0, [9, 63, 8, 9], 0), (0, [9, 67, 8, 10], 0), (0, [9, 71, 8, 11], 0), (0, [9, 75, 8, 12], 0), (0, [9, 79, 8, 13], 0), (0, [9, 82, 8, 15], 0), (1, [9, 88, 42], 0), (2, [42], 0), (3, [42], 0), (5, [42], 0), (1, [9, 92, 46], 0), (2, [46], 0), (3, [46], 0)]
set_option maxRecDepth 1000000 in
theorem nm_C9_7_in : ∀ q ∈ nm_C9_7, nm_w q ∈ lw_tbl := nm_in_of (l := tables_1_2) [45, 46, 47, 48, 50, 51, 52, 53, 29, 30, 33, 32, 54, 55, 56, 57, 58, 60, 101, 104, 102, 103, 109, 112, 110] nm_C9_7 rfl nm_t2_in
def nm_C9_8 : List px_Cw := [(5, [46], 0), (1, [9, 96, 67], 0), (2, [67], 0), (4, [67], 0), (22, [9, 355, 1], 0), (23, [1], 0), (24, [1], 0), (22, [9, 360, 0], 0), (23, [0], 0), (24, [0], 0), (1, [9, 111, 45], 0), (2, [45], 0), (3, [45], 0), (5, [45], 0), (1, [9, 114, 71], 0), (2, [71], 0), (4, [71], 0), (1, [9, 118, 73], 0), (2, [73], 0), (4, [73], 0), (1, [9, 121, 47], 0), (2, [47], 0), (3, [47], 0), (5, [47], 0), (1, [9, 127, 3], 0)]
set_option maxRecDepth 1000000 in
theorem nm_C9_8_in : ∀ q ∈ nm_C9_8, nm_w q ∈ lw_tbl := nm_in_of (l := tables_1_2) [111, 113, 115, 114, 135, 136, 137, 138, 139, 140, 128, 131, 129, 130, 132, 134, 133, 145, 147, 146, 148, 151, 149, 150, 152] nm_C9_8 rfl nm_t2_in
def nm_C9_9 : List px_Cw := [(2, [3], 0), (3, [3], 0), (5, [3], 0), (1, [9, 138, 44], 0), (2, [44], 0), (3, [44], 0), (5, [44], 0), (1, [9, 142, 43], 0), (2, [43], 0), (3, [43], 0), (5, [43], 0), (1, [9, 146, 37], 0), (2, [37], 0), (3, [37], 0), (5, [37], 0), (1, [9, 152, 38], 0), (2, [38], 0), (3, [38], 0), (5, [38], 0), (1, [9, 363, 40], 0), (2, [40], 0), (3, [40], 0), (5, [40], 0), (1, [9, 366, 30], 0), (2, [30], 0)]
set_option maxRecDepth 1000000 in
theorem nm_C9_9_in : ∀ q ∈ nm_C9_9, nm_w q ∈ lw_tbl := nm_in_of (l := tables_1_2) [155, 153, 154, 166, 169, 167, 168, 170, 173, 171, 172, 178, 181, 179, 180, 186, 189, 187, 188, 198, 201, 199, 200, 205, 208] nm_C9_9 rfl nm_t2_in
def nm_C9_10 : List px_Cw := [(3, [30], 0), (5, [30], 0), (1, [9, 155, 79], 0), (2, [79], 0), (3, [79], 0), (0, [9, 159, 8, 4], 0), (1, [9, 295, 17], 0), (2, [17], 0), (3, [17], 0), (5, [17], 0), (1, [9, 370, 23], 0), (2, [23], 0), (3, [23], 0), (5, [23], 0), (1, [9, 162, 82], 0), (2, [82], 0), (3, [82], 0), (1, [9, 166, 83], 0), (2, [83], 0), (3, [83], 0), (0, [9, 210, 2, 1], 0), (0, [9, 264, 7, 4], 0), (0, [9, 268, 7, 5], 0), (0, [9, 274, 7, 2], 0), (2, [18], 0)]
set_option maxRecDepth 1000000 in
theorem nm_C9_10_in : ∀ q ∈ nm_C9_10, nm_w q ∈ lw_tbl := nm_in_of (l := tables_1_2) [206, 207, 194, 197, 196, 49, 225, 228, 226, 227, 229, 232, 230, 231, 217, 220, 219, 221, 224, 223, 38, 13, 15, 10, 236] nm_C9_10 rfl nm_t2_in
def nm_C9_11 : List px_Cw := [(3, [18], 0), (5, [18], 0), (0, [9, 333, 8, 16], 0), (0, [9, 342, 8, 14], 0), (0, [9, 351, 2, 0], 0)]
set_option maxRecDepth 1000000 in
theorem nm_C9_11_in : ∀ q ∈ nm_C9_11, nm_w q ∈ lw_tbl := nm_in_of (l := tables_1_2) [234, 235, 61, 59, 36] nm_C9_11 rfl nm_t2_in
def nm_C9_12 : List px_Cw := [(1, [9, 175, 24], 0), (2, [24], 0), (3, [24], 0), (5, [24], 0), (7, [9, 373], 1103515245), (1, [9, 322, 11], 0), (2, [11], 0), (4, [11], 0), (1, [9, 178, 10], 0), (2, [10], 0), (3, [10], 0), (5, [10], 0), (1, [9, 182, 27], 0), (2, [27], 0), (3, [27], 0), (5, [27], 0), (1, [9, 185, 12], 0), (2, [12], 0), (3, [12], 0), (5, [12], 0), (1, [9, 192, 5], 0), (2, [5], 0), (3, [5], 0), (5, [5], 0), (1, [9, 195, 85], 0)]
set_option maxRecDepth 1000000 in
theorem nm_C9_12_in : ∀ q ∈ nm_C9_12, nm_w q ∈ lw_tbl := nm_in_of (l := tables_1_3) [13, 16, 14, 15, 65, 66, 56, 55, 33, 36, 34, 35, 46, 49, 47, 48, 50, 53, 51, 52, 60, 41, 39, 40, 61] nm_C9_12 rfl nm_t3_in
def nm_C9_13 : List px_Cw := [(2, [85], 0), (3, [85], 0), (1, [9, 198, 25], 0), (2, [25], 0), (3, [25], 0), (5, [25], 0), (1, [9, 202, 13], 0), (2, [13], 0), (3, [13], 0), (5, [13], 0), (1, [9, 206, 28], 0), (2, [28], 0), (3, [28], 0), (5, [28], 0), (1, [9, 213, 14], 0), (2, [14], 0), (3, [14], 0), (5, [14], 0), (1, [9, 374, 87], 0), (2, [87], 0), (4, [87], 0), (1, [9, 227, 1], 0), (2, [1], 0), (3, [1], 0), (5, [1], 0)]
set_option maxRecDepth 1000000 in
theorem nm_C9_13_in : ∀ q ∈ nm_C9_13, nm_w q ∈ lw_tbl := nm_in_of (l := tables_1_3) [64, 63, 67, 70, 68, 69, 71, 74, 72, 73, 75, 78, 76, 77, 79, 82, 80, 81, 90, 92, 91, 97, 100, 98, 99] nm_C9_13 rfl nm_t3_in
def nm_C9_14 : List px_Cw := [(1, [9, 219, 88], 0), (2, [88], 0), (4, [88], 0), (1, [9, 223, 89], 0), (2, [89], 0), (3, [89], 0), (1, [9, 231, 4], 0), (2, [4], 0), (3, [4], 0), (5, [4], 0), (1, [9, 234, 57], 0), (2, [57], 0), (4, [57], 0), (1, [9, 299, 49], 0), (2, [49], 0), (3, [49], 0), (5, [49], 0), (1, [9, 302, 53], 0), (2, [53], 0), (3, [53], 0), (5, [53], 0), (1, [9, 237, 95], 0), (2, [95], 0), (3, [95], 0), (1, [9, 240, 96], 0)]
set_option maxRecDepth 1000000 in
theorem nm_C9_14_in : ∀ q ∈ nm_C9_14, nm_w q ∈ lw_tbl := nm_in_of (l := tables_1_3) [87, 89, 88, 93, 96, 95, 109, 112, 110, 111, 121, 123, 122, 136, 139, 137, 138, 155, 158, 156, 157, 128, 131, 130, 132] nm_C9_14 rfl nm_t3_in
def nm_C9_15 : List px_Cw := [(2, [96], 0), (3, [96], 0), (1, [9, 244, 56], 0), (2, [56], 0), (3, [56], 0), (5, [56], 0), (1, [9, 248, 29], 0), (2, [29], 0), (3, [29], 0), (5, [29], 0), (1, [9, 251, 58], 0), (2, [58], 0), (3, [58], 0), (5, [58], 0), (1, [9, 258, 60], 0), (2, [60], 0), (3, [60], 0), (5, [60], 0), (1, [9, 261, 59], 0), (2, [59], 0), (3, [59], 0), (5, [59], 0), (1, [9, 271, 22], 0), (2, [22], 0), (3, [22], 0)]
set_option maxRecDepth 1000000 in
theorem nm_C9_15_in : ∀ q ∈ nm_C9_15, nm_w q ∈ lw_tbl := nm_in_of (l := tables_1_3) [135, 134, 183, 186, 184, 185, 191, 194, 192, 193, 205, 208, 206, 207, 214, 217, 215, 216, 222, 221, 219, 220, 231, 12, 10] nm_C9_15 rfl nm_t3_in
def nm_C9_16 : List px_Cw := [(5, [22], 0)]
set_option maxRecDepth 1000000 in
theorem nm_C9_16_in : ∀ q ∈ nm_C9_16, nm_w q ∈ lw_tbl := nm_in_of (l := tables_1_3) [11] nm_C9_16 rfl nm_t3_in
def nm_C9_17 : List px_Cw := [(1, [9, 281, 62], 0), (2, [62], 0), (3, [62], 0), (5, [62], 0), (1, [9, 284, 63], 0), (2, [63], 0), (3, [63], 0), (5, [63], 0), (1, [9, 287, 54], 0), (2, [54], 0), (3, [54], 0), (5, [54], 0), (1, [9, 291, 55], 0), (2, [55], 0), (3, [55], 0), (5, [55], 0), (1, [9, 336, 110], 0), (2, [110], 0), (3, [110], 0), (1, [9, 305, 107], 0), (2, [107], 0), (3, [107], 0), (1, [9, 309, 18], 0), (1, [9, 312, 108], 0), (2, [108], 0)]
set_option maxRecDepth 1000000 in
theorem nm_C9_17_in : ∀ q ∈ nm_C9_17, nm_w q ∈ lw_tbl := nm_in_of (l := tables_1_4) [0, 3, 1, 2, 4, 7, 5, 6, 12, 15, 13, 14, 16, 19, 17, 18, 44, 47, 46, 28, 31, 30, 32, 33, 35] nm_C9_17 rfl nm_t4_in
def nm_C9_18 : List px_Cw := [(4, [108], 0), (1, [9, 315, 109], 0), (2, [109], 0), (3, [109], 0), (1, [9, 318, 111], 0), (2, [111], 0), (3, [111], 0), (1, [9, 327, 61], 0), (2, [61], 0), (3, [61], 0), (5, [61], 0), (1, [9, 330, 64], 0), (2, [64], 0), (3, [64], 0), (5, [64], 0), (1, [9, 339, 119], 0), (2, [119], 0), (3, [119], 0)]
set_option maxRecDepth 1000000 in
theorem nm_C9_18_in : ∀ q ∈ nm_C9_18, nm_w q ∈ lw_tbl := nm_in_of (l := tables_1_4) [34, 36, 39, 38, 40, 43, 42, 52, 55, 53, 54, 60, 63, 61, 62, 92, 95, 94] nm_C9_18 rfl nm_t4_in
def nm_C9 : List px_Cw := nm_C9_0 ++ (nm_C9_1 ++ (nm_C9_2 ++ (nm_C9_3 ++ (nm_C9_4 ++ (nm_C9_5 ++ (nm_C9_6 ++ (nm_C9_7 ++ (nm_C9_8 ++ (nm_C9_9 ++ (nm_C9_10 ++ (nm_C9_11 ++ (nm_C9_12 ++ (nm_C9_13 ++ (nm_C9_14 ++ (nm_C9_15 ++ (nm_C9_16 ++ (nm_C9_17 ++ (nm_C9_18))))))))))))))))))
theorem nm_C9_in : ∀ q ∈ nm_C9, nm_w q ∈ lw_tbl := List.forall_mem_append.mpr ⟨nm_C9_0_in, List.forall_mem_append.mpr ⟨nm_C9_1_in, List.forall_mem_append.mpr ⟨nm_C9_2_in, List.forall_mem_append.mpr ⟨nm_C9_3_in, List.forall_mem_append.mpr ⟨nm_C9_4_in, List.forall_mem_append.mpr ⟨nm_C9_5_in, List.forall_mem_append.mpr ⟨nm_C9_6_in, List.forall_mem_append.mpr ⟨nm_C9_7_in, List.forall_mem_append.mpr ⟨nm_C9_8_in, List.forall_mem_append.mpr ⟨nm_C9_9_in, List.forall_mem_append.mpr ⟨nm_C9_10_in, List.forall_mem_append.mpr ⟨nm_C9_11_in, List.forall_mem_append.mpr ⟨nm_C9_12_in, List.forall_mem_append.mpr ⟨nm_C9_13_in, List.forall_mem_append.mpr ⟨nm_C9_14_in, List.forall_mem_append.mpr ⟨nm_C9_15_in, List.forall_mem_append.mpr ⟨nm_C9_16_in, List.forall_mem_append.mpr ⟨nm_C9_17_in, nm_C9_18_in⟩⟩⟩⟩⟩⟩⟩⟩⟩⟩⟩⟩⟩⟩⟩⟩⟩⟩
def nm_C10_0 : List px_Cw := [(5, [132], 0), (5, [133], 0), (5, [145], 0), (5, [146], 0), (5, [147], 0), (5, [151], 0), (5, [152], 0), (5, [150], 0), (5, [153], 0), (5, [154], 0), (5, [163], 0), (5, [155], 0), (5, [156], 0)]
set_option maxRecDepth 1000000 in
theorem nm_C10_0_in : ∀ q ∈ nm_C10_0, nm_w q ∈ lw_tbl := nm_in_of (l := k2_sels lw_privs_2) [3, 4, 7, 6, 5, 10, 9, 8, 11, 12, 13, 14, 15] nm_C10_0 rfl nm_s2_in
def nm_C10_1 : List px_Cw := [(5, [158], 0), (5, [159], 0), (5, [160], 0), (5, [131], 0), (5, [161], 0), (5, [167], 0), (5, [162], 0), (5, [157], 0), (5, [173], 0), (5, [175], 0), (5, [177], 0), (5, [180], 0), (5, [181], 0), (5, [182], 0), (5, [185], 0), (5, [188], 0)]
set_option maxRecDepth 1000000 in
theorem nm_C10_1_in : ∀ q ∈ nm_C10_1, nm_w q ∈ lw_tbl := nm_in_of (l := k2_sels lw_privs_3) [2, 3, 6, 0, 1, 4, 5, 7, 12, 13, 15, 14, 11, 10, 8, 9] nm_C10_1 rfl nm_s3_in
def nm_C10_2 : List px_Cw := [(5, [176], 0), (5, [179], 0), (5, [178], 0), (5, [183], 0), (5, [186], 0), (5, [184], 0), (5, [187], 0), (5, [192], 0), (5, [195], 0), (5, [198], 0), (5, [199], 0), (5, [204], 0), (5, [205], 0), (5, [203], 0), (5, [208], 0), (5, [211], 0)]
set_option maxRecDepth 1000000 in
theorem nm_C10_2_in : ∀ q ∈ nm_C10_2, nm_w q ∈ lw_tbl := nm_in_of (l := k2_sels lw_privs_4) [0, 1, 2, 4, 6, 3, 5, 7, 8, 9, 10, 11, 12, 13, 14, 15] nm_C10_2 rfl nm_s4_in
def nm_C10_3 : List px_Cw := [(5, [215], 0), (5, [216], 0), (5, [222], 0)]
set_option maxRecDepth 1000000 in
theorem nm_C10_3_in : ∀ q ∈ nm_C10_3, nm_w q ∈ lw_tbl := nm_in_of (l := k2_sels lw_privs_5) [1, 0, 2] nm_C10_3 rfl nm_s5_in
def nm_C10_4 : List px_Cw := [(6, [128], 0), (6, [132], 0), (25, [], 0), (6, [139], 0), (6, [133], 0), (6, [130], 0), (6, [145], 0), (6, [146], 0), (6, [147], 0), (6, [129], 0), (6, [151], 0), (6, [152], 0), (6, [11], 0), (6, [150], 0), (6, [158], 0), (6, [159], 0), (6, [160], 0), (6, [153], 0), (6, [154], 0), (6, [163], 0), (6, [164], 0), (6, [155], 0), (6, [156], 0), (6, [131], 0), (6, [161], 0)]
set_option maxRecDepth 1000000 in
theorem nm_C10_4_in : ∀ q ∈ nm_C10_4, nm_w q ∈ lw_tbl := nm_in_of (l := tables_1_1) [10, 10, 11, 10, 10, 10, 10, 10, 10, 10, 10, 10, 12, 10, 10, 10, 10, 10, 10, 10, 10, 10, 10, 10, 10] nm_C10_4 rfl nm_t1_in
def nm_C10_5 : List px_Cw := [(6, [167], 0), (6, [162], 0), (6, [157], 0), (6, [174], 0), (6, [173], 0), (6, [176], 0), (6, [175], 0), (6, [177], 0), (6, [179], 0), (6, [178], 0), (6, [180], 0), (6, [181], 0), (6, [183], 0), (6, [186], 0), (6, [182], 0), (6, [184], 0), (6, [185], 0), (6, [188], 0), (6, [187], 0), (6, [192], 0), (6, [195], 0), (6, [198], 0), (6, [199], 0), (6, [204], 0), (6, [205], 0)]
set_option maxRecDepth 1000000 in
theorem nm_C10_5_in : ∀ q ∈ nm_C10_5, nm_w q ∈ lw_tbl := nm_in_of (l := tables_1_1) [10, 10, 10, 10, 10, 10, 10, 10, 10, 10, 10, 10, 10, 10, 10, 10, 10, 10, 10, 10, 10, 10, 10, 10, 10] nm_C10_5 rfl nm_t1_in
def nm_C10_6 : List px_Cw := [(6, [203], 0), (6, [208], 0), (6, [211], 0), (6, [215], 0), (6, [216], 0), (6, [222], 0), (14, [], 0), (15, [], 0), (12, [28], 0), (12, [29], 0), (12, [30], 0), (12, [31], 0), (12, [32], 0), (12, [33], 0), (12, [34], 0), (12, [35], 0), (12, [36], 0), (12, [37], 0), (12, [38], 0), (12, [39], 0), (12, [40], 0), (12, [41], 0), (12, [42], 0), (12, [43], 0), (12, [44], 0)]
set_option maxRecDepth 1000000 in
theorem nm_C10_6_in : ∀ q ∈ nm_C10_6, nm_w q ∈ lw_tbl := nm_in_of (l := tables_1_1) [10, 10, 10, 10, 10, 10, 23, 24, 83, 83, 83, 83, 83, 83, 84, 83, 83, 83, 83, 84, 83, 83, 83, 83, 83] nm_C10_6 rfl nm_t1_in
def nm_C10_7 : List px_Cw := [(12, [45], 0), (12, [46], 0), (12, [47], 0), (12, [48], 0), (12, [49], 0), (12, [53], 0), (12, [54], 0), (12, [55], 0), (12, [56], 0), (12, [57], 0), (12, [60], 0), (12, [61], 0)]
set_option maxRecDepth 1000000 in
theorem nm_C10_7_in : ∀ q ∈ nm_C10_7, nm_w q ∈ lw_tbl := nm_in_of (l := tables_1_1) [83, 83, 83, 83, 83, 83, 83, 83, 83, 84, 83, 83] nm_C10_7 rfl nm_t1_in
def nm_C10_8 : List px_Cw := [(23, [1], 0), (24, [1], 0), (23, [0], 0), (24, [0], 0), (12, [27], 0), (12, [50], 0), (12, [51], 0), (12, [52], 0), (12, [58], 0), (12, [59], 0)]
set_option maxRecDepth 1000000 in
theorem nm_C10_8_in : ∀ q ∈ nm_C10_8, nm_w q ∈ lw_tbl := nm_in_of (l := tables_1_2) [136, 137, 139, 140, 4, 4, 4, 4, 4, 4] nm_C10_8 rfl nm_t2_in
def nm_C10_9 : List px_Cw := [(2, [11], 0), (4, [11], 0)]
set_option maxRecDepth 1000000 in
theorem nm_C10_9_in : ∀ q ∈ nm_C10_9, nm_w q ∈ lw_tbl := nm_in_of (l := tables_1_3) [56, 55] nm_C10_9 rfl nm_t3_in
def nm_C10_10 : List px_Cw := [(1, [10, 17, 128], 0), (2, [128], 0), (4, [128], 0), (8, [10, 21], 5), (1, [10, 39, 132], 0), (2, [132], 0), (3, [132], 0), (8, [10, 43], 999), (8, [10, 45], 1000), (8, [10, 47], 3), (22, [10, 49, 1], 0), (22, [10, 55, 0], 0), (1, [10, 58, 139], 0), (2, [139], 0), (4, [139], 0), (1, [10, 61, 133], 0), (2, [133], 0), (3, [133], 0), (23, [3], 0), (24, [3], 0), (23, [2], 0), (24, [2], 0)]
set_option maxRecDepth 1000000 in
theorem nm_C10_10_in : ∀ q ∈ nm_C10_10, nm_w q ∈ lw_tbl := nm_in_of (l := tables_1_4) [194, 196, 195, 193, 201, 205, 203, 206, 215, 220, 221, 222, 227, 229, 228, 230, 233, 232, 70, 71, 67, 68] nm_C10_10 rfl nm_t4_in
def nm_C10_11 : List px_Cw := [(1, [10, 101, 130], 0), (2, [130], 0), (4, [130], 0), (1, [10, 105, 145], 0), (2, [145], 0), (3, [145], 0), (8, [10, 109], 49), (8, [10, 111], 54), (1, [10, 122, 146], 0), (2, [146], 0), (3, [146], 0), (1, [10, 138, 147], 0), (2, [147], 0), (3, [147], 0), (8, [10, 142], 2), (1, [10, 154, 129], 0), (2, [129], 0), (4, [129], 0), (1, [10, 147, 151], 0), (2, [151], 0), (3, [151], 0), (1, [10, 167, 152], 0), (2, [152], 0), (3, [152], 0), (1, [10, 170, 11], 0)]
set_option maxRecDepth 1000000 in
theorem nm_C10_11_in : ∀ q ∈ nm_C10_11, nm_w q ∈ lw_tbl := nm_in_of (l := tables_1_5) [26, 28, 27, 22, 25, 24, 29, 30, 18, 21, 20, 14, 17, 16, 35, 52, 54, 53, 48, 51, 50, 44, 47, 46, 67] nm_C10_11 rfl nm_t5_in
def nm_C10_12 : List px_Cw := [(1, [10, 175, 150], 0), (2, [150], 0), (3, [150], 0), (8, [10, 181], 1023), (8, [10, 183], 7), (1, [10, 185, 158], 0), (2, [158], 0), (3, [158], 0), (1, [10, 193, 159], 0), (2, [159], 0), (3, [159], 0), (1, [10, 202, 160], 0), (2, [160], 0), (3, [160], 0), (7, [10, 209], 1103515245), (1, [10, 210, 153], 0), (2, [153], 0), (3, [153], 0), (1, [10, 214, 154], 0), (2, [154], 0), (3, [154], 0), (1, [10, 217, 163], 0), (2, [163], 0), (3, [163], 0), (1, [10, 220, 164], 0)]
set_option maxRecDepth 1000000 in
theorem nm_C10_12_in : ∀ q ∈ nm_C10_12, nm_w q ∈ lw_tbl := nm_in_of (l := tables_1_5) [40, 43, 42, 118, 119, 97, 100, 99, 101, 104, 103, 114, 117, 116, 72, 59, 62, 61, 63, 66, 65, 68, 71, 70, 73] nm_C10_12 rfl nm_t5_in
def nm_C10_13 : List px_Cw := [(2, [164], 0), (4, [164], 0), (1, [10, 226, 155], 0), (2, [155], 0), (3, [155], 0), (1, [10, 232, 156], 0), (2, [156], 0), (3, [156], 0), (1, [10, 235, 131], 0), (2, [131], 0), (3, [131], 0), (8, [10, 239], 15), (8, [10, 241], 10), (1, [10, 243, 161], 0), (2, [161], 0), (3, [161], 0), (1, [10, 247, 167], 0), (2, [167], 0), (3, [167], 0), (1, [10, 251, 162], 0), (2, [162], 0), (3, [162], 0), (1, [10, 254, 157], 0), (2, [157], 0), (3, [157], 0)]
set_option maxRecDepth 1000000 in
theorem nm_C10_13_in : ∀ q ∈ nm_C10_13, nm_w q ∈ lw_tbl := nm_in_of (l := tables_1_5) [75, 74, 76, 79, 78, 80, 83, 82, 84, 87, 86, 109, 92, 93, 96, 95, 105, 108, 107, 110, 113, 112, 128, 131, 130] nm_C10_13 rfl nm_t5_in
def nm_C10_14 : List px_Cw := [(8, [10, 263], 1000003), (8, [10, 265], 7919), (8, [10, 267], 1000000007), (1, [10, 269, 174], 0), (2, [174], 0), (4, [174], 0), (1, [10, 282, 173], 0), (2, [173], 0), (3, [173], 0), (1, [10, 285, 176], 0), (2, [176], 0), (3, [176], 0), (1, [10, 289, 175], 0), (2, [175], 0), (3, [175], 0), (1, [10, 299, 177], 0), (2, [177], 0), (3, [177], 0), (1, [10, 302, 179], 0), (2, [179], 0), (3, [179], 0), (1, [10, 305, 178], 0), (2, [178], 0), (3, [178], 0), (8, [10, 308], 1000000000000)]
set_option maxRecDepth 1000000 in
theorem nm_C10_14_in : ∀ q ∈ nm_C10_14, nm_w q ∈ lw_tbl := nm_in_of (l := tables_1_5) [172, 173, 174, 169, 171, 170, 160, 163, 162, 183, 186, 185, 165, 168, 167, 179, 182, 181, 187, 190, 189, 191, 194, 193, 164] nm_C10_14 rfl nm_t5_in
def nm_C10_15 : List px_Cw := [(1, [10, 310, 180], 0), (2, [180], 0), (3, [180], 0), (1, [10, 313, 181], 0), (2, [181], 0), (3, [181], 0), (1, [10, 319, 183], 0), (2, [183], 0), (3, [183], 0), (1, [10, 322, 186], 0), (2, [186], 0), (3, [186], 0), (1, [10, 326, 182], 0), (2, [182], 0), (3, [182], 0), (1, [10, 329, 184], 0), (2, [184], 0), (3, [184], 0), (1, [10, 332, 185], 0), (2, [185], 0), (3, [185], 0), (1, [10, 335, 188], 0), (2, [188], 0), (3, [188], 0), (1, [10, 338, 187], 0)]
set_option maxRecDepth 1000000 in
theorem nm_C10_15_in : ∀ q ∈ nm_C10_15, nm_w q ∈ lw_tbl := nm_in_of (l := tables_1_5) [175, 178, 177, 156, 159, 158, 199, 202, 201, 207, 210, 209, 152, 155, 154, 195, 198, 197, 144, 147, 146, 148, 151, 150, 203] nm_C10_15 rfl nm_t5_in
def nm_C10_16 : List px_Cw := [(2, [187], 0), (3, [187], 0), (1, [10, 341, 192], 0), (2, [192], 0), (3, [192], 0), (1, [10, 344, 195], 0), (2, [195], 0), (3, [195], 0)]
set_option maxRecDepth 1000000 in
theorem nm_C10_16_in : ∀ q ∈ nm_C10_16, nm_w q ∈ lw_tbl := nm_in_of (l := tables_1_5) [206, 205, 223, 226, 225, 235, 238, 237] nm_C10_16 rfl nm_t5_in
def nm_C10_17 : List px_Cw := [(0, [10, 3, 9, 0], 0), (0, [10, 7, 9, 2], 0), (0, [10, 11, 9, 1], 0), (0, [10, 14, 9, 3], 0), (0, [10, 23, 9, 4], 0), (0, [10, 27, 9, 5], 0), (0, [10, 30, 9, 6], 0), (0, [10, 33, 9, 7], 0), (0, [10, 36, 9, 8], 0), (0, [10, 64, 9, 9], 0), (0, [10, 67, 9, 28], 0), (0, [10, 70, 9, 29], 0), (0, [10, 73, 9, 10], 0), (0, [10, 77, 9, 11], 0), (0, [10, 80, 9, 12], 0), (0, [10, 83, 9, 13], 0), (0, [10, 86, 9, 14], 0), (0, [10, 89, 9, 22], 0), (0, [10, 92, 9, 21], 0), (0, [10, 95, 9, 23], 0), (0, [10, 98, 9, 24], 0), (0, [10, 113, 9, 25], 0), (0, [10, 116, 9, 27], 0), (0, [10, 119, 9, 26], 0), (0, [10, 126, 9, 16], 0)]
set_option maxRecDepth 1000000 in
theorem nm_C10_17_in : ∀ q ∈ nm_C10_17, nm_w q ∈ lw_tbl := nm_in_of (l := tables_1_6) [116, 118, 117, 119, 120, 121, 122, 123, 124, 125, 144, 145, 126, 127, 128, 129, 130, 138, 137, 139, 140, 141, 143, 142, 132] nm_C10_17 rfl nm_t6_in
def nm_C10_18 : List px_Cw := [(0, [10, 129, 9, 17], 0), (0, [10, 132, 9, 18], 0), (0, [10, 135, 9, 19], 0), (0, [10, 151, 9, 33], 0), (0, [10, 158, 9, 20], 0), (0, [10, 161, 9, 30], 0), (0, [10, 144, 9, 15], 0), (0, [10, 164, 9, 32], 0), (0, [10, 178, 9, 31], 0), (0, [10, 189, 9, 34], 0), (0, [10, 196, 9, 35], 0), (0, [10, 199, 9, 36], 0), (0, [10, 206, 9, 37], 0), (0, [10, 223, 9, 39], 0), (0, [10, 229, 9, 38], 0), (0, [10, 257, 9, 43], 0), (0, [10, 260, 9, 44], 0), (0, [10, 273, 9, 40], 0), (0, [10, 276, 9, 41], 0), (0, [10, 279, 9, 42], 0), (0, [10, 293, 9, 45], 0), (0, [10, 296, 9, 46], 0), (0, [10, 316, 9, 47], 0), (1, [10, 347, 198], 0), (2, [198], 0)]
set_option maxRecDepth 1000000 in
theorem nm_C10_18_in : ∀ q ∈ nm_C10_18, nm_w q ∈ lw_tbl := nm_in_of (l := tables_1_6) [133, 134, 135, 149, 136, 146, 131, 148, 147, 150, 151, 152, 153, 155, 154, 159, 160, 156, 157, 158, 161, 162, 163, 7, 10] nm_C10_18 rfl nm_t6_in
def nm_C10_19 : List px_Cw := [(3, [198], 0), (1, [10, 351, 199], 0), (2, [199], 0), (3, [199], 0), (0, [10, 354, 9, 48], 0), (1, [10, 357, 204], 0), (2, [204], 0), (3, [204], 0), (1, [10, 360, 205], 0), (2, [205], 0), (3, [205], 0), (1, [10, 364, 203], 0), (2, [203], 0), (3, [203], 0), (8, [10, 367], (-1)), (22, [10, 369, 3], 0), (22, [10, 372, 2], 0), (1, [10, 374, 208], 0), (2, [208], 0), (3, [208], 0), (1, [10, 377, 211], 0), (2, [211], 0), (3, [211], 0), (0, [10, 380, 9, 49], 0), (0, [10, 383, 9, 50], 0)]
set_option maxRecDepth 1000000 in
theorem nm_C10_19_in : ∀ q ∈ nm_C10_19, nm_w q ∈ lw_tbl := nm_in_of (l := tables_1_6) [9, 11, 14, 13, 164, 27, 30, 29, 31, 34, 33, 35, 38, 37, 51, 52, 53, 47, 50, 49, 62, 65, 64, 165, 166] nm_C10_19 rfl nm_t6_in
def nm_C10_20 : List px_Cw := [(1, [10, 386, 215], 0), (2, [215], 0), (3, [215], 0), (8, [10, 389], (-2)), (1, [10, 391, 216], 0), (2, [216], 0), (3, [216], 0), (0, [10, 395, 9, 51], 0), (0, [10, 398, 9, 52], 0), (0, [10, 401, 9, 53], 0), (0, [10, 404, 9, 54], 0), (0, [10, 407, 9, 55], 0), (1, [10, 410, 222], 0), (2, [222], 0), (3, [222], 0), (13, [10, 413], 0)]
set_option maxRecDepth 1000000 in
theorem nm_C10_20_in : ∀ q ∈ nm_C10_20, nm_w q ∈ lw_tbl := nm_in_of (l := tables_1_6) [82, 85, 84, 86, 78, 81, 80, 167, 168, 169, 170, 171, 107, 110, 109, 115] nm_C10_20 rfl nm_t6_in
def nm_C10 : List px_Cw := nm_C10_0 ++ (nm_C10_1 ++ (nm_C10_2 ++ (nm_C10_3 ++ (nm_C10_4 ++ (nm_C10_5 ++ (nm_C10_6 ++ (nm_C10_7 ++ (nm_C10_8 ++ (nm_C10_9 ++ (nm_C10_10 ++ (nm_C10_11 ++ (nm_C10_12 ++ (nm_C10_13 ++ (nm_C10_14 ++ (nm_C10_15 ++ (nm_C10_16 ++ (nm_C10_17 ++ (nm_C10_18 ++ (nm_C10_19 ++ (nm_C10_20))))))))))))))))))))
theorem nm_C10_in : ∀ q ∈ nm_C10, nm_w q ∈ lw_tbl := List.forall_mem_append.mpr ⟨nm_C10_0_in, List.forall_mem_append.mpr ⟨nm_C10_1_in, List.forall_mem_append.mpr ⟨nm_C10_2_in, List.forall_mem_append.mpr ⟨nm_C10_3_in, List.forall_mem_append.mpr ⟨nm_C10_4_in, List.forall_mem_append.mpr ⟨nm_C10_5_in, List.forall_mem_append.mpr ⟨nm_C10_6_in, List.forall_mem_append.mpr ⟨nm_C10_7_in, List.forall_mem_append.mpr ⟨nm_C10_8_in, List.forall_mem_append.mpr ⟨nm_C10_9_in, List.forall_mem_append.mpr ⟨nm_C10_10_in, List.forall_mem_append.mpr ⟨nm_C10_11_in, List.forall_mem_append.mpr ⟨nm_C10_12_in, List.forall_mem_append.mpr ⟨nm_C10_13_in, List.forall_mem_append.mpr ⟨nm_C10_14_in, List.forall_mem_append.mpr ⟨nm_C10_15_in, List.forall_mem_append.mpr ⟨nm_C10_16_in, List.forall_mem_append.mpr ⟨nm_C10_17_in, List.forall_mem_append.mpr ⟨nm_C10_18_in, List.forall_mem_append.mpr ⟨nm_C10_19_in, nm_C10_20_in⟩⟩⟩⟩⟩⟩⟩⟩⟩⟩⟩⟩⟩⟩⟩⟩⟩⟩⟩⟩
def nm_C11_0 : List px_Cw := [(9, [11, 8, 8], 0), (10, [8], 0), (11, [8], 0), (1, [11, 15, 65], 0), (2, [65], 0), (6, [65], 0), (3, [65], 0), (11, [9], 0), (6, [224], 0), (6, [66], 0), (6, [134], 0), (6, [68], 0), (6, [135], 0), (6, [69], 0), (6, [136], 0), (6, [70], 0), (6, [137], 0), (6, [72], 0), (6, [138], 0), (6, [74], 0), (6, [140], 0), (6, [75], 0), (6, [141], 0), (6, [76], 0), (6, [142], 0)]
set_option maxRecDepth 1000000 in
theorem nm_C11_0_in : ∀ q ∈ nm_C11_0, nm_w q ∈ lw_tbl := nm_in_of (l := tables_1_1) [17, 18, 1, 19, 21, 1, 20, 10, 10, 1, 10, 1, 10, 1, 10, 1, 10, 1, 10, 1, 10, 1, 10, 1, 10] nm_C11_0 rfl nm_t1_in
def nm_C11_1 : List px_Cw := [(6, [77], 0), (6, [143], 0), (6, [78], 0), (6, [144], 0), (6, [80], 0), (6, [148], 0), (6, [81], 0), (6, [149], 0), (6, [84], 0), (6, [165], 0), (6, [86], 0), (6, [166], 0), (6, [90], 0), (6, [168], 0), (6, [91], 0), (6, [169], 0), (6, [92], 0), (6, [170], 0), (6, [93], 0), (6, [171], 0), (6, [94], 0), (6, [172], 0), (6, [97], 0), (6, [189], 0), (6, [98], 0)]
set_option maxRecDepth 1000000 in
theorem nm_C11_1_in : ∀ q ∈ nm_C11_1, nm_w q ∈ lw_tbl := nm_in_of (l := tables_1_1) [1, 10, 1, 10, 1, 10, 1, 10, 1, 10, 1, 10, 1, 10, 1, 10, 1, 10, 1, 10, 1, 10, 1, 10, 1] nm_C11_1 rfl nm_t1_in
def nm_C11_2 : List px_Cw := [(6, [190], 0), (6, [99], 0), (6, [191], 0), (6, [100], 0), (6, [193], 0), (6, [101], 0), (6, [194], 0), (6, [102], 0), (6, [196], 0), (6, [103], 0), (6, [197], 0), (6, [104], 0), (6, [200], 0), (6, [105], 0), (6, [201], 0), (6, [106], 0), (6, [202], 0), (6, [112], 0), (6, [206], 0), (6, [113], 0), (6, [207], 0), (6, [114], 0), (6, [209], 0), (6, [115], 0), (6, [210], 0)]
set_option maxRecDepth 1000000 in
theorem nm_C11_2_in : ∀ q ∈ nm_C11_2, nm_w q ∈ lw_tbl := nm_in_of (l := tables_1_1) [10, 1, 10, 1, 10, 1, 10, 1, 10, 1, 10, 1, 10, 1, 10, 1, 10, 1, 10, 1, 10, 1, 10, 1, 10] nm_C11_2 rfl nm_t1_in
def nm_C11_3 : List px_Cw := [(6, [116], 0), (6, [212], 0), (6, [117], 0), (6, [213], 0), (6, [118], 0), (6, [214], 0), (6, [120], 0), (6, [217], 0), (6, [121], 0), (6, [218], 0), (6, [122], 0), (6, [219], 0), (6, [123], 0), (6, [220], 0), (6, [124], 0), (6, [221], 0), (6, [125], 0), (6, [223], 0), (6, [225], 0), (6, [127], 0), (6, [126], 0)]
set_option maxRecDepth 1000000 in
theorem nm_C11_3_in : ∀ q ∈ nm_C11_3, nm_w q ∈ lw_tbl := nm_in_of (l := tables_1_1) [1, 10, 1, 10, 1, 10, 1, 10, 1, 10, 1, 10, 1, 10, 1, 10, 1, 10, 10, 10, 1] nm_C11_3 rfl nm_t1_in
def nm_C11_4 : List px_Cw := [(12, [62], 0), (1, [11, 19, 66], 0), (2, [66], 0), (3, [66], 0), (5, [66], 0), (1, [11, 24, 68], 0), (2, [68], 0), (3, [68], 0), (5, [68], 0), (1, [11, 29, 69], 0), (2, [69], 0), (3, [69], 0), (5, [69], 0), (1, [11, 34, 70], 0), (2, [70], 0), (3, [70], 0), (5, [70], 0), (1, [11, 38, 72], 0), (2, [72], 0), (3, [72], 0), (5, [72], 0), (1, [11, 43, 74], 0), (2, [74], 0), (3, [74], 0), (5, [74], 0)]
set_option maxRecDepth 1000000 in
theorem nm_C11_4_in : ∀ q ∈ nm_C11_4, nm_w q ∈ lw_tbl := nm_in_of (l := tables_1_2) [4, 97, 100, 98, 99, 105, 108, 106, 107, 116, 119, 117, 118, 120, 123, 121, 122, 124, 127, 125, 126, 141, 144, 142, 143] nm_C11_4 rfl nm_t2_in
def nm_C11_5 : List px_Cw := [(1, [11, 47, 75], 0), (2, [75], 0), (3, [75], 0), (5, [75], 0), (1, [11, 52, 76], 0), (2, [76], 0), (3, [76], 0), (5, [76], 0), (1, [11, 57, 77], 0), (2, [77], 0), (3, [77], 0), (5, [77], 0), (1, [11, 61, 78], 0), (2, [78], 0), (3, [78], 0), (5, [78], 0), (1, [11, 66, 80], 0), (2, [80], 0), (3, [80], 0), (5, [80], 0), (1, [11, 71, 81], 0), (2, [81], 0), (3, [81], 0), (5, [81], 0), (1, [11, 75, 84], 0)]
set_option maxRecDepth 1000000 in
theorem nm_C11_5_in : ∀ q ∈ nm_C11_5, nm_w q ∈ lw_tbl := nm_in_of (l := tables_1_2) [158, 161, 159, 160, 162, 165, 163, 164, 174, 177, 175, 176, 182, 185, 183, 184, 190, 193, 191, 192, 209, 212, 210, 211, 213] nm_C11_5 rfl nm_t2_in
def nm_C11_6 : List px_Cw := [(2, [84], 0), (3, [84], 0), (5, [84], 0)]
set_option maxRecDepth 1000000 in
theorem nm_C11_6_in : ∀ q ∈ nm_C11_6, nm_w q ∈ lw_tbl := nm_in_of (l := tables_1_2) [216, 214, 215] nm_C11_6 rfl nm_t2_in
def nm_C11_7 : List px_Cw := [(1, [11, 79, 86], 0), (2, [86], 0), (3, [86], 0), (5, [86], 0), (1, [11, 85, 90], 0), (2, [90], 0), (3, [90], 0), (5, [90], 0), (1, [11, 90, 91], 0), (2, [91], 0), (3, [91], 0), (5, [91], 0), (1, [11, 95, 92], 0), (2, [92], 0), (3, [92], 0), (5, [92], 0), (1, [11, 99, 93], 0), (2, [93], 0), (3, [93], 0), (5, [93], 0), (1, [11, 103, 94], 0), (2, [94], 0), (3, [94], 0), (5, [94], 0), (1, [11, 107, 97], 0)]
set_option maxRecDepth 1000000 in
theorem nm_C11_7_in : ∀ q ∈ nm_C11_7, nm_w q ∈ lw_tbl := nm_in_of (l := tables_1_3) [29, 32, 30, 31, 83, 86, 84, 85, 101, 104, 102, 103, 105, 108, 106, 107, 113, 116, 114, 115, 117, 120, 118, 119, 124] nm_C11_7 rfl nm_t3_in
def nm_C11_8 : List px_Cw := [(2, [97], 0), (3, [97], 0), (5, [97], 0), (1, [11, 111, 98], 0), (2, [98], 0), (3, [98], 0), (5, [98], 0), (1, [11, 115, 99], 0), (2, [99], 0), (3, [99], 0), (5, [99], 0), (1, [11, 119, 100], 0), (2, [100], 0), (3, [100], 0), (5, [100], 0), (1, [11, 123, 101], 0), (2, [101], 0), (3, [101], 0), (5, [101], 0), (1, [11, 127, 102], 0), (2, [102], 0), (3, [102], 0), (5, [102], 0), (1, [11, 131, 103], 0), (2, [103], 0)]
set_option maxRecDepth 1000000 in
theorem nm_C11_8_in : ∀ q ∈ nm_C11_8, nm_w q ∈ lw_tbl := nm_in_of (l := tables_1_3) [127, 125, 126, 197, 200, 198, 199, 201, 204, 202, 203, 210, 213, 211, 212, 223, 226, 224, 225, 227, 230, 228, 229, 232, 235] nm_C11_8 rfl nm_t3_in
def nm_C11_9 : List px_Cw := [(3, [103], 0), (5, [103], 0), (1, [11, 135, 104], 0), (2, [104], 0), (3, [104], 0), (5, [104], 0)]
set_option maxRecDepth 1000000 in
theorem nm_C11_9_in : ∀ q ∈ nm_C11_9, nm_w q ∈ lw_tbl := nm_in_of (l := tables_1_3) [233, 234, 236, 239, 237, 238] nm_C11_9 rfl nm_t3_in
def nm_C11_10 : List px_Cw := [(10, [9], 0), (1, [11, 23, 134], 0), (2, [134], 0), (3, [134], 0), (5, [134], 0), (1, [11, 28, 135], 0), (2, [135], 0), (3, [135], 0), (5, [135], 0), (1, [11, 33, 136], 0), (2, [136], 0), (3, [136], 0), (5, [136], 0), (1, [11, 37, 137], 0), (2, [137], 0), (3, [137], 0), (5, [137], 0), (1, [11, 42, 138], 0), (2, [138], 0), (3, [138], 0), (5, [138], 0), (1, [11, 46, 140], 0), (2, [140], 0), (3, [140], 0), (5, [140], 0)]
set_option maxRecDepth 1000000 in
theorem nm_C11_10_in : ∀ q ∈ nm_C11_10, nm_w q ∈ lw_tbl := nm_in_of (l := tables_1_4) [204, 189, 192, 190, 191, 197, 200, 198, 199, 207, 210, 208, 209, 211, 214, 212, 213, 216, 219, 217, 218, 223, 226, 224, 225] nm_C11_10 rfl nm_t4_in
def nm_C11_11 : List px_Cw := [(1, [11, 51, 141], 0), (2, [141], 0), (3, [141], 0), (5, [141], 0), (1, [11, 56, 142], 0), (3, [142], 0), (1, [11, 139, 105], 0), (2, [105], 0), (3, [105], 0), (5, [105], 0), (1, [11, 143, 106], 0), (2, [106], 0), (3, [106], 0), (5, [106], 0), (1, [11, 147, 112], 0), (2, [112], 0), (3, [112], 0), (5, [112], 0), (1, [11, 152, 113], 0), (2, [113], 0), (3, [113], 0), (5, [113], 0), (1, [11, 156, 114], 0), (2, [114], 0), (3, [114], 0)]
set_option maxRecDepth 1000000 in
theorem nm_C11_11_in : ∀ q ∈ nm_C11_11, nm_w q ∈ lw_tbl := nm_in_of (l := tables_1_4) [234, 237, 235, 236, 238, 239, 8, 11, 9, 10, 20, 23, 21, 22, 24, 27, 25, 26, 48, 51, 49, 50, 56, 59, 57] nm_C11_11 rfl nm_t4_in
def nm_C11_12 : List px_Cw := [(5, [114], 0), (1, [11, 160, 115], 0), (2, [115], 0), (3, [115], 0), (5, [115], 0), (1, [11, 164, 116], 0), (2, [116], 0), (3, [116], 0), (5, [116], 0), (1, [11, 168, 117], 0), (2, [117], 0), (3, [117], 0), (5, [117], 0), (1, [11, 172, 118], 0), (2, [118], 0), (3, [118], 0), (5, [118], 0), (1, [11, 176, 120], 0), (2, [120], 0), (3, [120], 0), (5, [120], 0), (1, [11, 180, 121], 0), (2, [121], 0), (3, [121], 0), (5, [121], 0)]
set_option maxRecDepth 1000000 in
theorem nm_C11_12_in : ∀ q ∈ nm_C11_12, nm_w q ∈ lw_tbl := nm_in_of (l := tables_1_4) [58, 72, 75, 73, 74, 76, 79, 77, 78, 80, 83, 81, 82, 84, 87, 85, 86, 88, 91, 89, 90, 96, 99, 97, 98] nm_C11_12 rfl nm_t4_in
def nm_C11_13 : List px_Cw := [(1, [11, 184, 122], 0), (2, [122], 0), (3, [122], 0), (5, [122], 0), (1, [11, 188, 123], 0), (2, [123], 0), (3, [123], 0), (5, [123], 0), (1, [11, 192, 124], 0), (2, [124], 0), (3, [124], 0), (5, [124], 0), (1, [11, 196, 125], 0), (2, [125], 0), (3, [125], 0), (5, [125], 0), (1, [11, 206, 127], 0), (2, [127], 0), (3, [127], 0), (5, [127], 0), (1, [11, 7, 126], 0), (2, [126], 0), (3, [126], 0), (5, [126], 0)]
set_option maxRecDepth 1000000 in
theorem nm_C11_13_in : ∀ q ∈ nm_C11_13, nm_w q ∈ lw_tbl := nm_in_of (l := tables_1_4) [100, 103, 101, 102, 104, 107, 105, 106, 108, 111, 109, 110, 112, 115, 113, 114, 185, 188, 186, 187, 120, 123, 121, 122] nm_C11_13 rfl nm_t4_in
def nm_C11_14 : List px_Cw := [(2, [142], 0), (5, [142], 0), (1, [11, 60, 143], 0), (2, [143], 0), (3, [143], 0), (5, [143], 0), (1, [11, 65, 144], 0), (2, [144], 0), (3, [144], 0), (5, [144], 0), (1, [11, 70, 148], 0), (2, [148], 0), (3, [148], 0), (5, [148], 0), (1, [11, 74, 149], 0), (2, [149], 0), (3, [149], 0), (5, [149], 0), (1, [11, 78, 165], 0), (2, [165], 0), (3, [165], 0), (5, [165], 0), (1, [11, 82, 166], 0), (2, [166], 0), (3, [166], 0)]
set_option maxRecDepth 1000000 in
theorem nm_C11_14_in : ∀ q ∈ nm_C11_14, nm_w q ∈ lw_tbl := nm_in_of (l := tables_1_5) [1, 0, 2, 5, 3, 4, 6, 9, 7, 8, 10, 13, 11, 12, 31, 34, 32, 33, 36, 39, 37, 38, 55, 58, 56] nm_C11_14 rfl nm_t5_in
def nm_C11_15 : List px_Cw := [(5, [166], 0), (1, [11, 89, 168], 0), (2, [168], 0), (3, [168], 0), (5, [168], 0), (1, [11, 94, 169], 0), (2, [169], 0), (3, [169], 0), (5, [169], 0), (1, [11, 98, 170], 0), (2, [170], 0), (3, [170], 0), (5, [170], 0), (1, [11, 102, 171], 0), (2, [171], 0), (3, [171], 0), (5, [171], 0), (1, [11, 106, 172], 0), (2, [172], 0), (3, [172], 0), (5, [172], 0), (1, [11, 110, 189], 0), (2, [189], 0), (3, [189], 0), (5, [189], 0)]
set_option maxRecDepth 1000000 in
theorem nm_C11_15_in : ∀ q ∈ nm_C11_15, nm_w q ∈ lw_tbl := nm_in_of (l := tables_1_5) [57, 88, 91, 89, 90, 120, 123, 121, 122, 124, 127, 125, 126, 132, 135, 133, 134, 136, 139, 137, 138, 140, 143, 141, 142] nm_C11_15 rfl nm_t5_in
def nm_C11_16 : List px_Cw := [(1, [11, 114, 190], 0), (2, [190], 0), (3, [190], 0), (5, [190], 0), (1, [11, 118, 191], 0), (2, [191], 0), (3, [191], 0), (5, [191], 0), (1, [11, 122, 193], 0), (2, [193], 0), (3, [193], 0), (5, [193], 0), (1, [11, 126, 194], 0), (2, [194], 0), (3, [194], 0), (5, [194], 0), (1, [11, 130, 196], 0), (2, [196], 0), (3, [196], 0), (5, [196], 0), (1, [11, 134, 197], 0)]
set_option maxRecDepth 1000000 in
theorem nm_C11_16_in : ∀ q ∈ nm_C11_16, nm_w q ∈ lw_tbl := nm_in_of (l := tables_1_5) [211, 214, 212, 213, 215, 218, 216, 217, 219, 222, 220, 221, 227, 230, 228, 229, 231, 234, 232, 233, 239] nm_C11_16 rfl nm_t5_in
def nm_C11_17 : List px_Cw := [(9, [11, 16, 9], 0), (1, [11, 18, 224], 0), (2, [224], 0), (3, [224], 0), (2, [197], 0), (3, [197], 0), (5, [197], 0), (1, [11, 138, 200], 0), (2, [200], 0), (3, [200], 0), (5, [200], 0), (1, [11, 142, 201], 0), (2, [201], 0), (3, [201], 0), (5, [201], 0), (1, [11, 146, 202], 0), (2, [202], 0), (3, [202], 0), (5, [202], 0), (1, [11, 151, 206], 0), (2, [206], 0), (3, [206], 0), (5, [206], 0), (1, [11, 155, 207], 0), (2, [207], 0)]
set_option maxRecDepth 1000000 in
theorem nm_C11_17_in : ∀ q ∈ nm_C11_17, nm_w q ∈ lw_tbl := nm_in_of (l := tables_1_6) [111, 112, 114, 113, 2, 0, 1, 3, 6, 4, 5, 15, 18, 16, 17, 19, 22, 20, 21, 23, 26, 24, 25, 39, 42] nm_C11_17 rfl nm_t6_in
def nm_C11_18 : List px_Cw := [(3, [207], 0), (5, [207], 0), (1, [11, 159, 209], 0), (2, [209], 0), (3, [209], 0), (5, [209], 0), (1, [11, 163, 210], 0), (2, [210], 0), (3, [210], 0), (5, [210], 0), (1, [11, 167, 212], 0), (2, [212], 0), (3, [212], 0), (5, [212], 0), (1, [11, 171, 213], 0), (2, [213], 0), (3, [213], 0), (5, [213], 0), (1, [11, 175, 214], 0), (2, [214], 0), (3, [214], 0), (5, [214], 0), (1, [11, 179, 217], 0), (2, [217], 0), (3, [217], 0)]
set_option maxRecDepth 1000000 in
theorem nm_C11_18_in : ∀ q ∈ nm_C11_18, nm_w q ∈ lw_tbl := nm_in_of (l := tables_1_6) [40, 41, 43, 46, 44, 45, 54, 57, 55, 56, 58, 61, 59, 60, 66, 69, 67, 68, 70, 73, 71, 72, 74, 77, 75] nm_C11_18 rfl nm_t6_in
def nm_C11_19 : List px_Cw := [(5, [217], 0), (1, [11, 183, 218], 0), (2, [218], 0), (3, [218], 0), (5, [218], 0), (1, [11, 187, 219], 0), (2, [219], 0), (3, [219], 0), (5, [219], 0), (1, [11, 191, 220], 0), (2, [220], 0), (3, [220], 0), (5, [220], 0), (1, [11, 195, 221], 0), (2, [221], 0), (3, [221], 0), (5, [221], 0), (1, [11, 199, 223], 0), (2, [223], 0), (3, [223], 0), (5, [223], 0)]
set_option maxRecDepth 1000000 in
theorem nm_C11_19_in : ∀ q ∈ nm_C11_19, nm_w q ∈ lw_tbl := nm_in_of (l := tables_1_6) [76, 87, 90, 88, 89, 91, 94, 92, 93, 95, 98, 96, 97, 99, 102, 100, 101, 103, 106, 104, 105] nm_C11_19 rfl nm_t6_in
def nm_C11_20 : List px_Cw := [(8, [11, 83], 4294967295), (1, [11, 205, 225], 0), (2, [225], 0), (3, [225], 0), (5, [225], 0)]
set_option maxRecDepth 1000000 in
theorem nm_C11_20_in : ∀ q ∈ nm_C11_20, nm_w q ∈ lw_tbl := nm_in_of (l := tables_1_7) [49, 45, 48, 46, 47] nm_C11_20 rfl nm_t7_in
def nm_C11 : List px_Cw := nm_C11_0 ++ (nm_C11_1 ++ (nm_C11_2 ++ (nm_C11_3 ++ (nm_C11_4 ++ (nm_C11_5 ++ (nm_C11_6 ++ (nm_C11_7 ++ (nm_C11_8 ++ (nm_C11_9 ++ (nm_C11_10 ++ (nm_C11_11 ++ (nm_C11_12 ++ (nm_C11_13 ++ (nm_C11_14 ++ (nm_C11_15 ++ (nm_C11_16 ++ (nm_C11_17 ++ (nm_C11_18 ++ (nm_C11_19 ++ (nm_C11_20))))))))))))))))))))
theorem nm_C11_in : ∀ q ∈ nm_C11, nm_w q ∈ lw_tbl := List.forall_mem_append.mpr ⟨nm_C11_0_in, List.forall_mem_append.mpr ⟨nm_C11_1_in, List.forall_mem_append.mpr ⟨nm_C11_2_in, List.forall_mem_append.mpr ⟨nm_C11_3_in, List.forall_mem_append.mpr ⟨nm_C11_4_in, List.forall_mem_append.mpr ⟨nm_C11_5_in, List.forall_mem_append.mpr ⟨nm_C11_6_in, List.forall_mem_append.mpr ⟨nm_C11_7_in, List.forall_mem_append.mpr ⟨nm_C11_8_in, List.forall_mem_append.mpr ⟨nm_C11_9_in, List.forall_mem_append.mpr ⟨nm_C11_10_in, List.forall_mem_append.mpr ⟨nm_C11_11_in, List.forall_mem_append.mpr ⟨nm_C11_12_in, List.forall_mem_append.mpr ⟨nm_C11_13_in, List.forall_mem_append.mpr ⟨nm_C11_14_in, List.forall_mem_append.mpr ⟨nm_C11_15_in, List.forall_mem_append.mpr ⟨nm_C11_16_in, List.forall_mem_append.mpr ⟨nm_C11_17_in, List.forall_mem_append.mpr ⟨nm_C11_18_in, List.forall_mem_append.mpr ⟨nm_C11_19_in, nm_C11_20_in⟩⟩⟩⟩⟩⟩⟩⟩⟩⟩⟩⟩⟩⟩⟩⟩⟩⟩⟩⟩
def nm_L0_0 : List px_Cw := [(16, [0, 0], 0), (16, [0, 1], 0), (16, [0, 2], 0)]
set_option maxRecDepth 1000000 in
theorem nm_L0_0_in : ∀ q ∈ nm_L0_0, nm_w q ∈ lw_tbl := nm_in_of (l := tables_1_1) [139, 141, 143] nm_L0_0 rfl nm_t1_in
def nm_L0 : List px_Cw := nm_L0_0
theorem nm_L0_in : ∀ q ∈ nm_L0, nm_w q ∈ lw_tbl := nm_L0_0_in
def nm_L1_0 : List px_Cw := [(16, [1, 0], 0), (16, [1, 1], 0), (16, [1, 2], 0), (16, [1, 3], 0), (16, [1, 4], 0), (16, [1, 5], 0), (16, [1, 6], 0), (16, [1, 7], 0), (16, [1, 8], 0), (16, [1, 9], 0), (16, [1, 10], 0), (16, [1, 11], 0), (16, [1, 12], 0), (16, [1, 13], 0)]
set_option maxRecDepth 1000000 in
theorem nm_L1_0_in : ∀ q ∈ nm_L1_0, nm_w q ∈ lw_tbl := nm_in_of (l := tables_1_1) [179, 181, 183, 185, 187, 189, 191, 193, 195, 197, 199, 201, 203, 205] nm_L1_0 rfl nm_t1_in
def nm_L1 : List px_Cw := nm_L1_0
theorem nm_L1_in : ∀ q ∈ nm_L1, nm_w q ∈ lw_tbl := nm_L1_0_in
def nm_L2_0 : List px_Cw := [(16, [2, 0], 0), (16, [2, 1], 0)]
set_option maxRecDepth 1000000 in
theorem nm_L2_0_in : ∀ q ∈ nm_L2_0, nm_w q ∈ lw_tbl := nm_in_of (l := tables_1_2) [39, 41] nm_L2_0 rfl nm_t2_in
def nm_L2 : List px_Cw := nm_L2_0
theorem nm_L2_in : ∀ q ∈ nm_L2, nm_w q ∈ lw_tbl := nm_L2_0_in
def nm_L3_0 : List px_Cw := [(16, [3, 0], 0), (16, [3, 1], 0), (16, [3, 2], 0), (16, [3, 3], 0)]
set_option maxRecDepth 1000000 in
theorem nm_L3_0_in : ∀ q ∈ nm_L3_0, nm_w q ∈ lw_tbl := nm_in_of (l := tables_1_1) [116, 118, 120, 122] nm_L3_0 rfl nm_t1_in
def nm_L3 : List px_Cw := nm_L3_0
theorem nm_L3_in : ∀ q ∈ nm_L3, nm_w q ∈ lw_tbl := nm_L3_0_in
def nm_L4_0 : List px_Cw := [(16, [4, 0], 0), (16, [4, 1], 0), (16, [4, 2], 0), (16, [4, 3], 0), (16, [4, 4], 0)]
set_option maxRecDepth 1000000 in
theorem nm_L4_0_in : ∀ q ∈ nm_L4_0, nm_w q ∈ lw_tbl := nm_in_of (l := tables_1_1) [231, 233, 235, 237, 239] nm_L4_0 rfl nm_t1_in
def nm_L4_1 : List px_Cw := [(16, [4, 5], 0)]
set_option maxRecDepth 1000000 in
theorem nm_L4_1_in : ∀ q ∈ nm_L4_1, nm_w q ∈ lw_tbl := nm_in_of (l := tables_1_2) [1] nm_L4_1 rfl nm_t2_in
def nm_L4 : List px_Cw := nm_L4_0 ++ (nm_L4_1)
theorem nm_L4_in : ∀ q ∈ nm_L4, nm_w q ∈ lw_tbl := List.forall_mem_append.mpr ⟨nm_L4_0_in, nm_L4_1_in⟩
def nm_L5_0 : List px_Cw := [(16, [5, 0], 0), (16, [5, 1], 0)]
set_option maxRecDepth 1000000 in
theorem nm_L5_0_in : ∀ q ∈ nm_L5_0, nm_w q ∈ lw_tbl := nm_in_of (l := tables_1_1) [96, 98] nm_L5_0 rfl nm_t1_in
def nm_L5 : List px_Cw := nm_L5_0
theorem nm_L5_in : ∀ q ∈ nm_L5, nm_w q ∈ lw_tbl := nm_L5_0_in
def nm_L6_0 : List px_Cw := [(16, [6, 0], 0), (16, [6, 1], 0), (16, [6, 2], 0), (16, [6, 3], 0), (16, [6, 4], 0), (16, [6, 5], 0), (16, [6, 6], 0), (16, [6, 7], 0), (16, [6, 8], 0), (16, [6, 9], 0), (16, [6, 10], 0), (16, [6, 11], 0)]
set_option maxRecDepth 1000000 in
theorem nm_L6_0_in : ∀ q ∈ nm_L6_0, nm_w q ∈ lw_tbl := nm_in_of (l := tables_1_1) [58, 60, 62, 64, 66, 68, 70, 72, 74, 76, 78, 80] nm_L6_0 rfl nm_t1_in
def nm_L6 : List px_Cw := nm_L6_0
theorem nm_L6_in : ∀ q ∈ nm_L6, nm_w q ∈ lw_tbl := nm_L6_0_in
def nm_L7_0 : List px_Cw := [(16, [7, 0], 0), (16, [7, 1], 0), (16, [7, 2], 0), (16, [7, 3], 0), (16, [7, 4], 0), (16, [7, 5], 0)]
set_option maxRecDepth 1000000 in
theorem nm_L7_0_in : ∀ q ∈ nm_L7_0, nm_w q ∈ lw_tbl := nm_in_of (l := tables_1_2) [16, 18, 20, 22, 24, 26] nm_L7_0 rfl nm_t2_in
def nm_L7 : List px_Cw := nm_L7_0
theorem nm_L7_in : ∀ q ∈ nm_L7, nm_w q ∈ lw_tbl := nm_L7_0_in
def nm_L8_0 : List px_Cw := [(16, [8, 0], 0), (16, [8, 1], 0), (16, [8, 2], 0), (16, [8, 3], 0), (16, [8, 4], 0), (16, [8, 5], 0), (16, [8, 6], 0), (16, [8, 7], 0), (16, [8, 8], 0), (16, [8, 9], 0), (16, [8, 10], 0), (16, [8, 11], 0), (16, [8, 12], 0), (16, [8, 13], 0), (16, [8, 14], 0), (16, [8, 15], 0), (16, [8, 16], 0)]
set_option maxRecDepth 1000000 in
theorem nm_L8_0_in : ∀ q ∈ nm_L8_0, nm_w q ∈ lw_tbl := nm_in_of (l := tables_1_2) [62, 64, 66, 68, 70, 72, 74, 76, 78, 80, 82, 84, 86, 88, 90, 92, 94] nm_L8_0 rfl nm_t2_in
def nm_L8 : List px_Cw := nm_L8_0
theorem nm_L8_in : ∀ q ∈ nm_L8, nm_w q ∈ lw_tbl := nm_L8_0_in
def nm_L9_0 : List px_Cw := [(16, [9, 0], 0), (16, [9, 1], 0), (16, [9, 2], 0), (16, [9, 3], 0), (16, [9, 4], 0), (16, [9, 5], 0), (16, [9, 6], 0), (16, [9, 7], 0), (16, [9, 8], 0), (16, [9, 9], 0), (16, [9, 10], 0), (16, [9, 11], 0), (16, [9, 12], 0), (16, [9, 13], 0), (16, [9, 14], 0), (16, [9, 15], 0), (16, [9, 16], 0), (16, [9, 17], 0), (16, [9, 18], 0), (16, [9, 19], 0), (16, [9, 20], 0), (16, [9, 21], 0), (16, [9, 22], 0), (16, [9, 23], 0), (16, [9, 24], 0)]
set_option maxRecDepth 1000000 in
theorem nm_L9_0_in : ∀ q ∈ nm_L9_0, nm_w q ∈ lw_tbl := nm_in_of (l := tables_1_6) [172, 174, 176, 178, 180, 182, 184, 186, 188, 190, 192, 194, 196, 198, 200, 202, 204, 206, 208, 210, 212, 214, 216, 218, 220] nm_L9_0 rfl nm_t6_in
def nm_L9_1 : List px_Cw := [(16, [9, 25], 0), (16, [9, 26], 0), (16, [9, 27], 0), (16, [9, 28], 0), (16, [9, 29], 0), (16, [9, 30], 0), (16, [9, 31], 0), (16, [9, 32], 0), (16, [9, 33], 0)]
set_option maxRecDepth 1000000 in
theorem nm_L9_1_in : ∀ q ∈ nm_L9_1, nm_w q ∈ lw_tbl := nm_in_of (l := tables_1_6) [222, 224, 226, 228, 230, 232, 234, 236, 238] nm_L9_1 rfl nm_t6_in
def nm_L9_2 : List px_Cw := [(16, [9, 34], 0), (16, [9, 35], 0), (16, [9, 36], 0), (16, [9, 37], 0), (16, [9, 38], 0), (16, [9, 39], 0), (16, [9, 40], 0), (16, [9, 41], 0), (16, [9, 42], 0), (16, [9, 43], 0), (16, [9, 44], 0), (16, [9, 45], 0), (16, [9, 46], 0), (16, [9, 47], 0), (16, [9, 48], 0), (16, [9, 49], 0), (16, [9, 50], 0), (16, [9, 51], 0), (16, [9, 52], 0), (16, [9, 53], 0), (16, [9, 54], 0), (16, [9, 55], 0)]
set_option maxRecDepth 1000000 in
theorem nm_L9_2_in : ∀ q ∈ nm_L9_2, nm_w q ∈ lw_tbl := nm_in_of (l := tables_1_7) [0, 2, 4, 6, 8, 10, 12, 14, 16, 18, 20, 22, 24, 26, 28, 30, 32, 34, 36, 38, 40, 42] nm_L9_2 rfl nm_t7_in
def nm_L9 : List px_Cw := nm_L9_0 ++ (nm_L9_1 ++ (nm_L9_2))
theorem nm_L9_in : ∀ q ∈ nm_L9, nm_w q ∈ lw_tbl := List.forall_mem_append.mpr ⟨nm_L9_0_in, List.forall_mem_append.mpr ⟨nm_L9_1_in, nm_L9_2_in⟩⟩
def nm_CE_0 : List px_Cw := [(20, [9, 11, 41], 0), (20, [9, 18, 36], 0), (20, [9, 25, 15], 0), (20, [9, 36, 0], 0), (20, [1, 11, 15], 0), (20, [9, 55, 48], 0), (20, [8, 11, 31], 0), (21, [22], 0)]
set_option maxRecDepth 1000000 in
theorem nm_CE_0_in : ∀ q ∈ nm_CE_0, nm_w q ∈ lw_tbl := nm_in_of (l := tables_1_1) [27, 87, 103, 128, 153, 210, 216, 125] nm_CE_0 rfl nm_t1_in
def nm_CE_1 : List px_Cw := [(20, [8, 26, 0], 0), (20, [9, 62, 26], 0), (21, [24], 0)]
set_option maxRecDepth 1000000 in
theorem nm_CE_1_in : ∀ q ∈ nm_CE_1, nm_w q ∈ lw_tbl := nm_in_of (l := tables_1_2) [6, 31, 44] nm_CE_1 rfl nm_t2_in
def nm_CE_2 : List px_Cw := [(20, [8, 119, 57], 0)]
set_option maxRecDepth 1000000 in
theorem nm_CE_2_in : ∀ q ∈ nm_CE_2, nm_w q ∈ lw_tbl := nm_in_of (l := tables_1_3) [209] nm_CE_2 rfl nm_t3_in
def nm_CE : List px_Cw := nm_CE_0 ++ (nm_CE_1 ++ (nm_CE_2))
theorem nm_CE_in : ∀ q ∈ nm_CE, nm_w q ∈ lw_tbl := List.forall_mem_append.mpr ⟨nm_CE_0_in, List.forall_mem_append.mpr ⟨nm_CE_1_in, nm_CE_2_in⟩⟩
end
section
set_option maxRecDepth 1000000 in
theorem nm_ok_m0 : px_okM nm_cl nm_T nm_P nm_C0 nm_CE nm_mf 0 2 0 nm_m0 = true := by decide +kernel
set_option maxRecDepth 1000000 in
theorem nm_ok_m1 : px_okM nm_cl nm_T nm_P nm_C0 nm_CE nm_mf 0 0 0 nm_m1 = true := by decide +kernel
set_option maxRecDepth 1000000 in
theorem nm_ok_m2 : px_okM nm_cl nm_T nm_P nm_C0 nm_CE nm_mf 0 0 0 nm_m2 = true := by decide +kernel
set_option maxRecDepth 1000000 in
theorem nm_ok_m3 : px_okM nm_cl nm_T nm_P nm_C0 nm_CE nm_mf 0 0 0 nm_m3 = true := by decide +kernel
set_option maxRecDepth 1000000 in
theorem nm_ok_m4 : px_okM nm_cl nm_T nm_P nm_C0 nm_CE nm_mf 0 0 0 nm_m4 = true := by decide +kernel
set_option maxRecDepth 1000000 in
theorem nm_ok_m5 : px_okM nm_cl nm_T nm_P nm_C0 nm_CE nm_mf 0 0 0 nm_m5 = true := by decide +kernel
set_option maxRecDepth 1000000 in
theorem nm_ok_m10 : px_okM nm_cl nm_T nm_P nm_C0 nm_CE nm_mf 0 0 0 nm_m10 = true := by decide +kernel
set_option maxRecDepth 1000000 in
theorem nm_ok_m12 : px_okM nm_cl nm_T nm_P nm_C0 nm_CE nm_mf 0 0 0 nm_m12 = true := by decide +kernel
set_option maxRecDepth 1000000 in
theorem nm_ok_m13 : px_okM nm_cl nm_T nm_P nm_C0 nm_CE nm_mf 0 0 0 nm_m13 = true := by decide +kernel
set_option maxRecDepth 1000000 in
theorem nm_ok_m14 : px_okM nm_cl nm_T nm_P nm_C0 nm_CE nm_mf 0 0 0 nm_m14 = true := by decide +kernel
set_option maxRecDepth 1000000 in
theorem nm_ok_m6 : px_okM nm_cl nm_T nm_P nm_C1 nm_CE nm_mf 1 0 1 nm_m6 = true := by decide +kernel
set_option maxRecDepth 1000000 in
theorem nm_ok_m7 : px_okM nm_cl nm_T nm_P nm_C1 nm_CE nm_mf 1 0 1 nm_m7 = true := by decide +kernel
set_option maxRecDepth 1000000 in
theorem nm_ok_m8 : px_okM nm_cl nm_T nm_P nm_C1 nm_CE nm_mf 1 0 1 nm_m8 = true := by decide +kernel
set_option maxRecDepth 1000000 in
theorem nm_ok_m9 : px_okM nm_cl nm_T nm_P nm_C1 nm_CE nm_mf 1 0 1 nm_m9 = true := by decide +kernel
set_option maxRecDepth 1000000 in
theorem nm_ok_m16 : px_okM nm_cl nm_T nm_P nm_C1 nm_CE nm_mf 1 2 1 nm_m16 = true := by decide +kernel
set_option maxRecDepth 1000000 in
theorem nm_ok_m17 : px_okM nm_cl nm_T nm_P nm_C1 nm_CE nm_mf 1 0 1 nm_m17 = true := by decide +kernel
set_option maxRecDepth 1000000 in
theorem nm_ok_m23 : px_okM nm_cl nm_T nm_P nm_C1 nm_CE nm_mf 1 0 1 nm_m23 = true := by decide +kernel
set_option maxRecDepth 1000000 in
theorem nm_ok_m24 : px_okM nm_cl nm_T nm_P nm_C1 nm_CE nm_mf 1 0 1 nm_m24 = true := by decide +kernel
set_option maxRecDepth 1000000 in
theorem nm_ok_m25 : px_okM nm_cl nm_T nm_P nm_C1 nm_CE nm_mf 1 0 1 nm_m25 = true := by decide +kernel
set_option maxRecDepth 1000000 in
theorem nm_ok_m11 : px_okM nm_cl nm_T nm_P nm_C2 nm_CE nm_mf 2 0 0 nm_m11 = true := by decide +kernel
set_option maxRecDepth 1000000 in
theorem nm_ok_m15 : px_okM nm_cl nm_T nm_P nm_C3 nm_CE nm_mf 3 2 3 nm_m15 = true := by decide +kernel
set_option maxRecDepth 1000000 in
theorem nm_ok_m30 : px_okM nm_cl nm_T nm_P nm_C3 nm_CE nm_mf 3 0 3 nm_m30 = true := by decide +kernel
set_option maxRecDepth 1000000 in
theorem nm_ok_m18 : px_okM nm_cl nm_T nm_P nm_C4 nm_CE nm_mf 4 0 6 nm_m18 = true := by decide +kernel
set_option maxRecDepth 1000000 in
theorem nm_ok_m19 : px_okM nm_cl nm_T nm_P nm_C4 nm_CE nm_mf 4 0 6 nm_m19 = true := by decide +kernel
set_option maxRecDepth 1000000 in
theorem nm_ok_m20 : px_okM nm_cl nm_T nm_P nm_C4 nm_CE nm_mf 4 0 6 nm_m20 = true := by decide +kernel
set_option maxRecDepth 1000000 in
theorem nm_ok_m21 : px_okM nm_cl nm_T nm_P nm_C4 nm_CE nm_mf 4 0 6 nm_m21 = true := by decide +kernel
set_option maxRecDepth 1000000 in
theorem nm_ok_m22 : px_okM nm_cl nm_T nm_P nm_C4 nm_CE nm_mf 4 0 6 nm_m22 = true := by decide +kernel
set_option maxRecDepth 1000000 in
theorem nm_ok_m41 : px_okM nm_cl nm_T nm_P nm_C4 nm_CE nm_mf 4 2 6 nm_m41 = true := by decide +kernel
set_option maxRecDepth 1000000 in
theorem nm_ok_m42 : px_okM nm_cl nm_T nm_P nm_C4 nm_CE nm_mf 4 0 6 nm_m42 = true := by decide +kernel
set_option maxRecDepth 1000000 in
theorem nm_ok_m43 : px_okM nm_cl nm_T nm_P nm_C4 nm_CE nm_mf 4 0 6 nm_m43 = true := by decide +kernel
set_option maxRecDepth 1000000 in
theorem nm_ok_m44 : px_okM nm_cl nm_T nm_P nm_C4 nm_CE nm_mf 4 0 6 nm_m44 = true := by decide +kernel
set_option maxRecDepth 1000000 in
theorem nm_ok_m45 : px_okM nm_cl nm_T nm_P nm_C4 nm_CE nm_mf 4 0 6 nm_m45 = true := by decide +kernel
set_option maxRecDepth 1000000 in
theorem nm_ok_m46 : px_okM nm_cl nm_T nm_P nm_C4 nm_CE nm_mf 4 0 6 nm_m46 = true := by decide +kernel
set_option maxRecDepth 1000000 in
theorem nm_ok_m47 : px_okM nm_cl nm_T nm_P nm_C4 nm_CE nm_mf 4 0 6 nm_m47 = true := by decide +kernel
set_option maxRecDepth 1000000 in
theorem nm_ok_m26 : px_okM nm_cl nm_T nm_P nm_C5 nm_CE nm_mf 5 2 2 nm_m26 = true := by decide +kernel
set_option maxRecDepth 1000000 in
theorem nm_ok_m27 : px_okM nm_cl nm_T nm_P nm_C5 nm_CE nm_mf 5 0 2 nm_m27 = true := by decide +kernel
set_option maxRecDepth 1000000 in
theorem nm_ok_m28 : px_okM nm_cl nm_T nm_P nm_C5 nm_CE nm_mf 5 0 2 nm_m28 = true := by decide +kernel
set_option maxRecDepth 1000000 in
theorem nm_ok_m29 : px_okM nm_cl nm_T nm_P nm_C5 nm_CE nm_mf 5 0 2 nm_m29 = true := by decide +kernel
set_option maxRecDepth 1000000 in
theorem nm_ok_m31 : px_okM nm_cl nm_T nm_P nm_C6 nm_CE nm_mf 6 2 4 nm_m31 = true := by decide +kernel
set_option maxRecDepth 1000000 in
theorem nm_ok_m32 : px_okM nm_cl nm_T nm_P nm_C6 nm_CE nm_mf 6 0 4 nm_m32 = true := by decide +kernel
set_option maxRecDepth 1000000 in
theorem nm_ok_m33 : px_okM nm_cl nm_T nm_P nm_C6 nm_CE nm_mf 6 0 4 nm_m33 = true := by decide +kernel
set_option maxRecDepth 1000000 in
theorem nm_ok_m34 : px_okM nm_cl nm_T nm_P nm_C6 nm_CE nm_mf 6 0 4 nm_m34 = true := by decide +kernel
set_option maxRecDepth 1000000 in
theorem nm_ok_m35 : px_okM nm_cl nm_T nm_P nm_C6 nm_CE nm_mf 6 0 4 nm_m35 = true := by decide +kernel
set_option maxRecDepth 1000000 in
theorem nm_ok_m36 : px_okM nm_cl nm_T nm_P nm_C7 nm_CE nm_mf 7 2 5 nm_m36 = true := by decide +kernel
set_option maxRecDepth 1000000 in
theorem nm_ok_m37 : px_okM nm_cl nm_T nm_P nm_C7 nm_CE nm_mf 7 0 5 nm_m37 = true := by decide +kernel
set_option maxRecDepth 1000000 in
theorem nm_ok_m38 : px_okM nm_cl nm_T nm_P nm_C7 nm_CE nm_mf 7 0 5 nm_m38 = true := by decide +kernel
set_option maxRecDepth 1000000 in
theorem nm_ok_m39 : px_okM nm_cl nm_T nm_P nm_C7 nm_CE nm_mf 7 0 5 nm_m39 = true := by decide +kernel
set_option maxRecDepth 1000000 in
theorem nm_ok_m40 : px_okM nm_cl nm_T nm_P nm_C7 nm_CE nm_mf 7 0 5 nm_m40 = true := by decide +kernel
set_option maxRecDepth 1000000 in
theorem nm_ok_m48 : px_okM nm_cl nm_T nm_P nm_C8 nm_CE nm_mf 8 2 7 nm_m48 = true := by decide +kernel
set_option maxRecDepth 1000000 in
theorem nm_ok_m49 : px_okM nm_cl nm_T nm_P nm_C8 nm_CE nm_mf 8 0 7 nm_m49 = true := by decide +kernel
set_option maxRecDepth 1000000 in
theorem nm_ok_m50 : px_okM nm_cl nm_T nm_P nm_C8 nm_CE nm_mf 8 0 7 nm_m50 = true := by decide +kernel
set_option maxRecDepth 1000000 in
theorem nm_ok_m51 : px_okM nm_cl nm_T nm_P nm_C8 nm_CE nm_mf 8 0 7 nm_m51 = true := by decide +kernel
set_option maxRecDepth 1000000 in
theorem nm_ok_m52 : px_okM nm_cl nm_T nm_P nm_C8 nm_CE nm_mf 8 0 7 nm_m52 = true := by decide +kernel
set_option maxRecDepth 1000000 in
theorem nm_ok_m53 : px_okM nm_cl nm_T nm_P nm_C8 nm_CE nm_mf 8 0 7 nm_m53 = true := by decide +kernel
set_option maxRecDepth 1000000 in
theorem nm_ok_m54 : px_okM nm_cl nm_T nm_P nm_C8 nm_CE nm_mf 8 0 7 nm_m54 = true := by decide +kernel
set_option maxRecDepth 1000000 in
theorem nm_ok_m55 : px_okM nm_cl nm_T nm_P nm_C8 nm_CE nm_mf 8 0 7 nm_m55 = true := by decide +kernel
set_option maxRecDepth 1000000 in
theorem nm_ok_m56 : px_okM nm_cl nm_T nm_P nm_C8 nm_CE nm_mf 8 0 7 nm_m56 = true := by decide +kernel
set_option maxRecDepth 1000000 in
theorem nm_ok_m58 : px_okM nm_cl nm_T nm_P nm_C8 nm_CE nm_mf 8 0 7 nm_m58 = true := by decide +kernel
set_option maxRecDepth 1000000 in
theorem nm_ok_m59 : px_okM nm_cl nm_T nm_P nm_C8 nm_CE nm_mf 8 0 7 nm_m59 = true := by decide +kernel
set_option maxRecDepth 1000000 in
theorem nm_ok_m60 : px_okM nm_cl nm_T nm_P nm_C8 nm_CE nm_mf 8 0 7 nm_m60 = true := by decide +kernel
end
section
set_option maxRecDepth 1000000 in
theorem nm_ok_m61 : px_okM nm_cl nm_T nm_P nm_C8 nm_CE nm_mf 8 0 7 nm_m61 = true := by decide +kernel
set_option maxRecDepth 1000000 in
theorem nm_ok_m62 : px_okM nm_cl nm_T nm_P nm_C8 nm_CE nm_mf 8 0 7 nm_m62 = true := by decide +kernel
set_option maxRecDepth 1000000 in
theorem nm_ok_m63 : px_okM nm_cl nm_T nm_P nm_C8 nm_CE nm_mf 8 0 7 nm_m63 = true := by decide +kernel
set_option maxRecDepth 1000000 in
theorem nm_ok_m64 : px_okM nm_cl nm_T nm_P nm_C8 nm_CE nm_mf 8 0 7 nm_m64 = true := by decide +kernel
set_option maxRecDepth 1000000 in
theorem nm_ok_m57 : px_okM nm_cl nm_T nm_P nm_C9 nm_CE nm_mf 9 0 8 nm_m57 = true := by decide +kernel
set_option maxRecDepth 1000000 in
theorem nm_ok_m65 : px_okM nm_cl nm_T nm_P nm_C9 nm_CE nm_mf 9 2 8 nm_m65 = true := by decide +kernel
set_option maxRecDepth 1000000 in
theorem nm_ok_m66 : px_okM nm_cl nm_T nm_P nm_C9 nm_CE nm_mf 9 0 8 nm_m66 = true := by decide +kernel
set_option maxRecDepth 1000000 in
theorem nm_ok_m67 : px_okM nm_cl nm_T nm_P nm_C9 nm_CE nm_mf 9 0 8 nm_m67 = true := by decide +kernel
set_option maxRecDepth 1000000 in
theorem nm_ok_m68 : px_okM nm_cl nm_T nm_P nm_C9 nm_CE nm_mf 9 0 8 nm_m68 = true := by decide +kernel
set_option maxRecDepth 1000000 in
theorem nm_ok_m69 : px_okM nm_cl nm_T nm_P nm_C9 nm_CE nm_mf 9 0 8 nm_m69 = true := by decide +kernel
set_option maxRecDepth 1000000 in
theorem nm_ok_m70 : px_okM nm_cl nm_T nm_P nm_C9 nm_CE nm_mf 9 0 8 nm_m70 = true := by decide +kernel
set_option maxRecDepth 1000000 in
theorem nm_ok_m71 : px_okM nm_cl nm_T nm_P nm_C9 nm_CE nm_mf 9 0 8 nm_m71 = true := by decide +kernel
set_option maxRecDepth 1000000 in
theorem nm_ok_m72 : px_okM nm_cl nm_T nm_P nm_C9 nm_CE nm_mf 9 0 8 nm_m72 = true := by decide +kernel
set_option maxRecDepth 1000000 in
theorem nm_ok_m73 : px_okM nm_cl nm_T nm_P nm_C9 nm_CE nm_mf 9 0 8 nm_m73 = true := by decide +kernel
set_option maxRecDepth 1000000 in
theorem nm_ok_m74 : px_okM nm_cl nm_T nm_P nm_C9 nm_CE nm_mf 9 0 8 nm_m74 = true := by decide +kernel
set_option maxRecDepth 1000000 in
theorem nm_ok_m75 : px_okM nm_cl nm_T nm_P nm_C9 nm_CE nm_mf 9 0 8 nm_m75 = true := by decide +kernel
set_option maxRecDepth 1000000 in
theorem nm_ok_m76 : px_okM nm_cl nm_T nm_P nm_C9 nm_CE nm_mf 9 0 8 nm_m76 = true := by decide +kernel
set_option maxRecDepth 1000000 in
theorem nm_ok_m77 : px_okM nm_cl nm_T nm_P nm_C9 nm_CE nm_mf 9 0 8 nm_m77 = true := by decide +kernel
set_option maxRecDepth 1000000 in
theorem nm_ok_m78 : px_okM nm_cl nm_T nm_P nm_C9 nm_CE nm_mf 9 0 8 nm_m78 = true := by decide +kernel
set_option maxRecDepth 1000000 in
theorem nm_ok_m79 : px_okM nm_cl nm_T nm_P nm_C9 nm_CE nm_mf 9 0 8 nm_m79 = true := by decide +kernel
set_option maxRecDepth 1000000 in
theorem nm_ok_m80 : px_okM nm_cl nm_T nm_P nm_C9 nm_CE nm_mf 9 0 8 nm_m80 = true := by decide +kernel
set_option maxRecDepth 1000000 in
theorem nm_ok_m81 : px_okM nm_cl nm_T nm_P nm_C9 nm_CE nm_mf 9 0 8 nm_m81 = true := by decide +kernel
set_option maxRecDepth 1000000 in
theorem nm_ok_m82 : px_okM nm_cl nm_T nm_P nm_C9 nm_CE nm_mf 9 0 8 nm_m82 = true := by decide +kernel
set_option maxRecDepth 1000000 in
theorem nm_ok_m83 : px_okM nm_cl nm_T nm_P nm_C9 nm_CE nm_mf 9 0 8 nm_m83 = true := by decide +kernel
set_option maxRecDepth 1000000 in
theorem nm_ok_m84 : px_okM nm_cl nm_T nm_P nm_C9 nm_CE nm_mf 9 0 8 nm_m84 = true := by decide +kernel
set_option maxRecDepth 1000000 in
theorem nm_ok_m85 : px_okM nm_cl nm_T nm_P nm_C9 nm_CE nm_mf 9 0 8 nm_m85 = true := by decide +kernel
set_option maxRecDepth 1000000 in
theorem nm_ok_m86 : px_okM nm_cl nm_T nm_P nm_C9 nm_CE nm_mf 9 0 8 nm_m86 = true := by decide +kernel
set_option maxRecDepth 1000000 in
theorem nm_ok_m87 : px_okM nm_cl nm_T nm_P nm_C9 nm_CE nm_mf 9 0 8 nm_m87 = true := by decide +kernel
set_option maxRecDepth 1000000 in
theorem nm_ok_m88 : px_okM nm_cl nm_T nm_P nm_C9 nm_CE nm_mf 9 0 8 nm_m88 = true := by decide +kernel
set_option maxRecDepth 1000000 in
theorem nm_ok_m89 : px_okM nm_cl nm_T nm_P nm_C9 nm_CE nm_mf 9 0 8 nm_m89 = true := by decide +kernel
set_option maxRecDepth 1000000 in
theorem nm_ok_m90 : px_okM nm_cl nm_T nm_P nm_C9 nm_CE nm_mf 9 0 8 nm_m90 = true := by decide +kernel
set_option maxRecDepth 1000000 in
theorem nm_ok_m91 : px_okM nm_cl nm_T nm_P nm_C9 nm_CE nm_mf 9 0 8 nm_m91 = true := by decide +kernel
set_option maxRecDepth 1000000 in
theorem nm_ok_m92 : px_okM nm_cl nm_T nm_P nm_C9 nm_CE nm_mf 9 0 8 nm_m92 = true := by decide +kernel
set_option maxRecDepth 1000000 in
theorem nm_ok_m93 : px_okM nm_cl nm_T nm_P nm_C9 nm_CE nm_mf 9 0 8 nm_m93 = true := by decide +kernel
set_option maxRecDepth 1000000 in
theorem nm_ok_m94 : px_okM nm_cl nm_T nm_P nm_C9 nm_CE nm_mf 9 0 8 nm_m94 = true := by decide +kernel
set_option maxRecDepth 1000000 in
theorem nm_ok_m95 : px_okM nm_cl nm_T nm_P nm_C9 nm_CE nm_mf 9 0 8 nm_m95 = true := by decide +kernel
set_option maxRecDepth 1000000 in
theorem nm_ok_m96 : px_okM nm_cl nm_T nm_P nm_C9 nm_CE nm_mf 9 0 8 nm_m96 = true := by decide +kernel
set_option maxRecDepth 1000000 in
theorem nm_ok_m97 : px_okM nm_cl nm_T nm_P nm_C9 nm_CE nm_mf 9 0 8 nm_m97 = true := by decide +kernel
set_option maxRecDepth 1000000 in
theorem nm_ok_m98 : px_okM nm_cl nm_T nm_P nm_C9 nm_CE nm_mf 9 0 8 nm_m98 = true := by decide +kernel
set_option maxRecDepth 1000000 in
theorem nm_ok_m99 : px_okM nm_cl nm_T nm_P nm_C9 nm_CE nm_mf 9 0 8 nm_m99 = true := by decide +kernel
set_option maxRecDepth 1000000 in
theorem nm_ok_m100 : px_okM nm_cl nm_T nm_P nm_C9 nm_CE nm_mf 9 0 8 nm_m100 = true := by decide +kernel
set_option maxRecDepth 1000000 in
theorem nm_ok_m101 : px_okM nm_cl nm_T nm_P nm_C9 nm_CE nm_mf 9 0 8 nm_m101 = true := by decide +kernel
set_option maxRecDepth 1000000 in
theorem nm_ok_m102 : px_okM nm_cl nm_T nm_P nm_C9 nm_CE nm_mf 9 0 8 nm_m102 = true := by decide +kernel
set_option maxRecDepth 1000000 in
theorem nm_ok_m103 : px_okM nm_cl nm_T nm_P nm_C9 nm_CE nm_mf 9 0 8 nm_m103 = true := by decide +kernel
set_option maxRecDepth 1000000 in
theorem nm_ok_m104 : px_okM nm_cl nm_T nm_P nm_C9 nm_CE nm_mf 9 0 8 nm_m104 = true := by decide +kernel
set_option maxRecDepth 1000000 in
theorem nm_ok_m105 : px_okM nm_cl nm_T nm_P nm_C9 nm_CE nm_mf 9 0 8 nm_m105 = true := by decide +kernel
set_option maxRecDepth 1000000 in
theorem nm_ok_m106 : px_okM nm_cl nm_T nm_P nm_C9 nm_CE nm_mf 9 0 8 nm_m106 = true := by decide +kernel
set_option maxRecDepth 1000000 in
theorem nm_ok_m107 : px_okM nm_cl nm_T nm_P nm_C9 nm_CE nm_mf 9 0 8 nm_m107 = true := by decide +kernel
set_option maxRecDepth 1000000 in
theorem nm_ok_m108 : px_okM nm_cl nm_T nm_P nm_C9 nm_CE nm_mf 9 0 8 nm_m108 = true := by decide +kernel
set_option maxRecDepth 1000000 in
theorem nm_ok_m109 : px_okM nm_cl nm_T nm_P nm_C9 nm_CE nm_mf 9 0 8 nm_m109 = true := by decide +kernel
set_option maxRecDepth 1000000 in
theorem nm_ok_m110 : px_okM nm_cl nm_T nm_P nm_C9 nm_CE nm_mf 9 0 8 nm_m110 = true := by decide +kernel
set_option maxRecDepth 1000000 in
theorem nm_ok_m111 : px_okM nm_cl nm_T nm_P nm_C9 nm_CE nm_mf 9 0 8 nm_m111 = true := by decide +kernel
set_option maxRecDepth 1000000 in
theorem nm_ok_m112 : px_okM nm_cl nm_T nm_P nm_C9 nm_CE nm_mf 9 0 8 nm_m112 = true := by decide +kernel
set_option maxRecDepth 1000000 in
theorem nm_ok_m113 : px_okM nm_cl nm_T nm_P nm_C9 nm_CE nm_mf 9 0 8 nm_m113 = true := by decide +kernel
set_option maxRecDepth 1000000 in
theorem nm_ok_m114 : px_okM nm_cl nm_T nm_P nm_C9 nm_CE nm_mf 9 0 8 nm_m114 = true := by decide +kernel
set_option maxRecDepth 1000000 in
theorem nm_ok_m115 : px_okM nm_cl nm_T nm_P nm_C9 nm_CE nm_mf 9 0 8 nm_m115 = true := by decide +kernel
set_option maxRecDepth 1000000 in
theorem nm_ok_m116 : px_okM nm_cl nm_T nm_P nm_C9 nm_CE nm_mf 9 0 8 nm_m116 = true := by decide +kernel
set_option maxRecDepth 1000000 in
theorem nm_ok_m117 : px_okM nm_cl nm_T nm_P nm_C9 nm_CE nm_mf 9 0 8 nm_m117 = true := by decide +kernel
set_option maxRecDepth 1000000 in
theorem nm_ok_m118 : px_okM nm_cl nm_T nm_P nm_C9 nm_CE nm_mf 9 0 8 nm_m118 = true := by decide +kernel
set_option maxRecDepth 1000000 in
theorem nm_ok_m119 : px_okM nm_cl nm_T nm_P nm_C9 nm_CE nm_mf 9 0 8 nm_m119 = true := by decide +kernel
end
section
set_option maxRecDepth 1000000 in
theorem nm_ok_m120 : px_okM nm_cl nm_T nm_P nm_C9 nm_CE nm_mf 9 0 8 nm_m120 = true := by decide +kernel
set_option maxRecDepth 1000000 in
theorem nm_ok_m121 : px_okM nm_cl nm_T nm_P nm_C9 nm_CE nm_mf 9 0 8 nm_m121 = true := by decide +kernel
set_option maxRecDepth 1000000 in
theorem nm_ok_m122 : px_okM nm_cl nm_T nm_P nm_C9 nm_CE nm_mf 9 0 8 nm_m122 = true := by decide +kernel
set_option maxRecDepth 1000000 in
theorem nm_ok_m123 : px_okM nm_cl nm_T nm_P nm_C9 nm_CE nm_mf 9 0 8 nm_m123 = true := by decide +kernel
set_option maxRecDepth 1000000 in
theorem nm_ok_m124 : px_okM nm_cl nm_T nm_P nm_C9 nm_CE nm_mf 9 0 8 nm_m124 = true := by decide +kernel
set_option maxRecDepth 1000000 in
theorem nm_ok_m125 : px_okM nm_cl nm_T nm_P nm_C9 nm_CE nm_mf 9 0 8 nm_m125 = true := by decide +kernel
set_option maxRecDepth 1000000 in
theorem nm_ok_m126 : px_okM nm_cl nm_T nm_P nm_C9 nm_CE nm_mf 9 0 8 nm_m126 = true := by decide +kernel
set_option maxRecDepth 1000000 in
theorem nm_ok_m127 : px_okM nm_cl nm_T nm_P nm_C10 nm_CE nm_mf 10 0 9 nm_m127 = true := by decide +kernel
set_option maxRecDepth 1000000 in
theorem nm_ok_m128 : px_okM nm_cl nm_T nm_P nm_C10 nm_CE nm_mf 10 0 9 nm_m128 = true := by decide +kernel
set_option maxRecDepth 1000000 in
theorem nm_ok_m129 : px_okM nm_cl nm_T nm_P nm_C10 nm_CE nm_mf 10 0 9 nm_m129 = true := by decide +kernel
set_option maxRecDepth 1000000 in
theorem nm_ok_m130 : px_okM nm_cl nm_T nm_P nm_C10 nm_CE nm_mf 10 0 9 nm_m130 = true := by decide +kernel
set_option maxRecDepth 1000000 in
theorem nm_ok_m131 : px_okM nm_cl nm_T nm_P nm_C10 nm_CE nm_mf 10 0 9 nm_m131 = true := by decide +kernel
set_option maxRecDepth 1000000 in
theorem nm_ok_m132 : px_okM nm_cl nm_T nm_P nm_C10 nm_CE nm_mf 10 0 9 nm_m132 = true := by decide +kernel
set_option maxRecDepth 1000000 in
theorem nm_ok_m133 : px_okM nm_cl nm_T nm_P nm_C10 nm_CE nm_mf 10 0 9 nm_m133 = true := by decide +kernel
set_option maxRecDepth 1000000 in
theorem nm_ok_m134 : px_okM nm_cl nm_T nm_P nm_C10 nm_CE nm_mf 10 0 9 nm_m134 = true := by decide +kernel
set_option maxRecDepth 1000000 in
theorem nm_ok_m135 : px_okM nm_cl nm_T nm_P nm_C10 nm_CE nm_mf 10 0 9 nm_m135 = true := by decide +kernel
set_option maxRecDepth 1000000 in
theorem nm_ok_m136 : px_okM nm_cl nm_T nm_P nm_C10 nm_CE nm_mf 10 0 9 nm_m136 = true := by decide +kernel
set_option maxRecDepth 1000000 in
theorem nm_ok_m137 : px_okM nm_cl nm_T nm_P nm_C10 nm_CE nm_mf 10 0 9 nm_m137 = true := by decide +kernel
set_option maxRecDepth 1000000 in
theorem nm_ok_m138 : px_okM nm_cl nm_T nm_P nm_C10 nm_CE nm_mf 10 0 9 nm_m138 = true := by decide +kernel
set_option maxRecDepth 1000000 in
theorem nm_ok_m139 : px_okM nm_cl nm_T nm_P nm_C10 nm_CE nm_mf 10 0 9 nm_m139 = true := by decide +kernel
set_option maxRecDepth 1000000 in
theorem nm_ok_m140 : px_okM nm_cl nm_T nm_P nm_C10 nm_CE nm_mf 10 0 9 nm_m140 = true := by decide +kernel
set_option maxRecDepth 1000000 in
theorem nm_ok_m141 : px_okM nm_cl nm_T nm_P nm_C10 nm_CE nm_mf 10 0 9 nm_m141 = true := by decide +kernel
set_option maxRecDepth 1000000 in
theorem nm_ok_m142 : px_okM nm_cl nm_T nm_P nm_C10 nm_CE nm_mf 10 0 9 nm_m142 = true := by decide +kernel
set_option maxRecDepth 1000000 in
theorem nm_ok_m143 : px_okM nm_cl nm_T nm_P nm_C10 nm_CE nm_mf 10 0 9 nm_m143 = true := by decide +kernel
set_option maxRecDepth 1000000 in
theorem nm_ok_m144 : px_okM nm_cl nm_T nm_P nm_C10 nm_CE nm_mf 10 0 9 nm_m144 = true := by decide +kernel
set_option maxRecDepth 1000000 in
theorem nm_ok_m145 : px_okM nm_cl nm_T nm_P nm_C10 nm_CE nm_mf 10 0 9 nm_m145 = true := by decide +kernel
set_option maxRecDepth 1000000 in
theorem nm_ok_m146 : px_okM nm_cl nm_T nm_P nm_C10 nm_CE nm_mf 10 0 9 nm_m146 = true := by decide +kernel
set_option maxRecDepth 1000000 in
theorem nm_ok_m147 : px_okM nm_cl nm_T nm_P nm_C10 nm_CE nm_mf 10 0 9 nm_m147 = true := by decide +kernel
set_option maxRecDepth 1000000 in
theorem nm_ok_m148 : px_okM nm_cl nm_T nm_P nm_C10 nm_CE nm_mf 10 0 9 nm_m148 = true := by decide +kernel
set_option maxRecDepth 1000000 in
theorem nm_ok_m149 : px_okM nm_cl nm_T nm_P nm_C10 nm_CE nm_mf 10 0 9 nm_m149 = true := by decide +kernel
set_option maxRecDepth 1000000 in
theorem nm_ok_m150 : px_okM nm_cl nm_T nm_P nm_C10 nm_CE nm_mf 10 0 9 nm_m150 = true := by decide +kernel
set_option maxRecDepth 1000000 in
theorem nm_ok_m151 : px_okM nm_cl nm_T nm_P nm_C10 nm_CE nm_mf 10 0 9 nm_m151 = true := by decide +kernel
set_option maxRecDepth 1000000 in
theorem nm_ok_m152 : px_okM nm_cl nm_T nm_P nm_C10 nm_CE nm_mf 10 0 9 nm_m152 = true := by decide +kernel
set_option maxRecDepth 1000000 in
theorem nm_ok_m153 : px_okM nm_cl nm_T nm_P nm_C10 nm_CE nm_mf 10 0 9 nm_m153 = true := by decide +kernel
set_option maxRecDepth 1000000 in
theorem nm_ok_m154 : px_okM nm_cl nm_T nm_P nm_C10 nm_CE nm_mf 10 0 9 nm_m154 = true := by decide +kernel
set_option maxRecDepth 1000000 in
theorem nm_ok_m155 : px_okM nm_cl nm_T nm_P nm_C10 nm_CE nm_mf 10 0 9 nm_m155 = true := by decide +kernel
set_option maxRecDepth 1000000 in
theorem nm_ok_m156 : px_okM nm_cl nm_T nm_P nm_C10 nm_CE nm_mf 10 0 9 nm_m156 = true := by decide +kernel
set_option maxRecDepth 1000000 in
theorem nm_ok_m157 : px_okM nm_cl nm_T nm_P nm_C10 nm_CE nm_mf 10 0 9 nm_m157 = true := by decide +kernel
set_option maxRecDepth 1000000 in
theorem nm_ok_m158 : px_okM nm_cl nm_T nm_P nm_C10 nm_CE nm_mf 10 0 9 nm_m158 = true := by decide +kernel
set_option maxRecDepth 1000000 in
theorem nm_ok_m159 : px_okM nm_cl nm_T nm_P nm_C10 nm_CE nm_mf 10 0 9 nm_m159 = true := by decide +kernel
set_option maxRecDepth 1000000 in
theorem nm_ok_m160 : px_okM nm_cl nm_T nm_P nm_C10 nm_CE nm_mf 10 0 9 nm_m160 = true := by decide +kernel
set_option maxRecDepth 1000000 in
theorem nm_ok_m161 : px_okM nm_cl nm_T nm_P nm_C10 nm_CE nm_mf 10 0 9 nm_m161 = true := by decide +kernel
set_option maxRecDepth 1000000 in
theorem nm_ok_m162 : px_okM nm_cl nm_T nm_P nm_C10 nm_CE nm_mf 10 0 9 nm_m162 = true := by decide +kernel
set_option maxRecDepth 1000000 in
theorem nm_ok_m163 : px_okM nm_cl nm_T nm_P nm_C10 nm_CE nm_mf 10 0 9 nm_m163 = true := by decide +kernel
set_option maxRecDepth 1000000 in
theorem nm_ok_m164 : px_okM nm_cl nm_T nm_P nm_C10 nm_CE nm_mf 10 0 9 nm_m164 = true := by decide +kernel
set_option maxRecDepth 1000000 in
theorem nm_ok_m165 : px_okM nm_cl nm_T nm_P nm_C10 nm_CE nm_mf 10 0 9 nm_m165 = true := by decide +kernel
set_option maxRecDepth 1000000 in
theorem nm_ok_m166 : px_okM nm_cl nm_T nm_P nm_C10 nm_CE nm_mf 10 0 9 nm_m166 = true := by decide +kernel
set_option maxRecDepth 1000000 in
theorem nm_ok_m167 : px_okM nm_cl nm_T nm_P nm_C10 nm_CE nm_mf 10 0 9 nm_m167 = true := by decide +kernel
set_option maxRecDepth 1000000 in
theorem nm_ok_m168 : px_okM nm_cl nm_T nm_P nm_C10 nm_CE nm_mf 10 0 9 nm_m168 = true := by decide +kernel
set_option maxRecDepth 1000000 in
theorem nm_ok_m169 : px_okM nm_cl nm_T nm_P nm_C10 nm_CE nm_mf 10 0 9 nm_m169 = true := by decide +kernel
set_option maxRecDepth 1000000 in
theorem nm_ok_m170 : px_okM nm_cl nm_T nm_P nm_C10 nm_CE nm_mf 10 0 9 nm_m170 = true := by decide +kernel
set_option maxRecDepth 1000000 in
theorem nm_ok_m171 : px_okM nm_cl nm_T nm_P nm_C10 nm_CE nm_mf 10 0 9 nm_m171 = true := by decide +kernel
set_option maxRecDepth 1000000 in
theorem nm_ok_m172 : px_okM nm_cl nm_T nm_P nm_C10 nm_CE nm_mf 10 0 9 nm_m172 = true := by decide +kernel
set_option maxRecDepth 1000000 in
theorem nm_ok_m173 : px_okM nm_cl nm_T nm_P nm_C10 nm_CE nm_mf 10 0 9 nm_m173 = true := by decide +kernel
set_option maxRecDepth 1000000 in
theorem nm_ok_m174 : px_okM nm_cl nm_T nm_P nm_C10 nm_CE nm_mf 10 0 9 nm_m174 = true := by decide +kernel
set_option maxRecDepth 1000000 in
theorem nm_ok_m175 : px_okM nm_cl nm_T nm_P nm_C10 nm_CE nm_mf 10 0 9 nm_m175 = true := by decide +kernel
set_option maxRecDepth 1000000 in
theorem nm_ok_m176 : px_okM nm_cl nm_T nm_P nm_C10 nm_CE nm_mf 10 0 9 nm_m176 = true := by decide +kernel
set_option maxRecDepth 1000000 in
theorem nm_ok_m177 : px_okM nm_cl nm_T nm_P nm_C10 nm_CE nm_mf 10 0 9 nm_m177 = true := by decide +kernel
set_option maxRecDepth 1000000 in
theorem nm_ok_m178 : px_okM nm_cl nm_T nm_P nm_C10 nm_CE nm_mf 10 0 9 nm_m178 = true := by decide +kernel
set_option maxRecDepth 1000000 in
theorem nm_ok_m179 : px_okM nm_cl nm_T nm_P nm_C10 nm_CE nm_mf 10 0 9 nm_m179 = true := by decide +kernel
end
section
set_option maxRecDepth 1000000 in
theorem nm_ok_m180 : px_okM nm_cl nm_T nm_P nm_C10 nm_CE nm_mf 10 0 9 nm_m180 = true := by decide +kernel
set_option maxRecDepth 1000000 in
theorem nm_ok_m181 : px_okM nm_cl nm_T nm_P nm_C10 nm_CE nm_mf 10 0 9 nm_m181 = true := by decide +kernel
set_option maxRecDepth 1000000 in
theorem nm_ok_m182 : px_okM nm_cl nm_T nm_P nm_C10 nm_CE nm_mf 10 0 9 nm_m182 = true := by decide +kernel
set_option maxRecDepth 1000000 in
theorem nm_ok_m183 : px_okM nm_cl nm_T nm_P nm_C10 nm_CE nm_mf 10 0 9 nm_m183 = true := by decide +kernel
set_option maxRecDepth 1000000 in
theorem nm_ok_m184 : px_okM nm_cl nm_T nm_P nm_C10 nm_CE nm_mf 10 0 9 nm_m184 = true := by decide +kernel
set_option maxRecDepth 1000000 in
theorem nm_ok_m185 : px_okM nm_cl nm_T nm_P nm_C10 nm_CE nm_mf 10 0 9 nm_m185 = true := by decide +kernel
set_option maxRecDepth 1000000 in
theorem nm_ok_m186 : px_okM nm_cl nm_T nm_P nm_C10 nm_CE nm_mf 10 0 9 nm_m186 = true := by decide +kernel
set_option maxRecDepth 1000000 in
theorem nm_ok_m187 : px_okM nm_cl nm_T nm_P nm_C10 nm_CE nm_mf 10 0 9 nm_m187 = true := by decide +kernel
set_option maxRecDepth 1000000 in
theorem nm_ok_m188 : px_okM nm_cl nm_T nm_P nm_C10 nm_CE nm_mf 10 0 9 nm_m188 = true := by decide +kernel
set_option maxRecDepth 1000000 in
theorem nm_ok_m189 : px_okM nm_cl nm_T nm_P nm_C10 nm_CE nm_mf 10 0 9 nm_m189 = true := by decide +kernel
set_option maxRecDepth 1000000 in
theorem nm_ok_m190 : px_okM nm_cl nm_T nm_P nm_C10 nm_CE nm_mf 10 0 9 nm_m190 = true := by decide +kernel
set_option maxRecDepth 1000000 in
theorem nm_ok_m191 : px_okM nm_cl nm_T nm_P nm_C10 nm_CE nm_mf 10 0 9 nm_m191 = true := by decide +kernel
set_option maxRecDepth 1000000 in
theorem nm_ok_m192 : px_okM nm_cl nm_T nm_P nm_C10 nm_CE nm_mf 10 0 9 nm_m192 = true := by decide +kernel
set_option maxRecDepth 1000000 in
theorem nm_ok_m193 : px_okM nm_cl nm_T nm_P nm_C10 nm_CE nm_mf 10 0 9 nm_m193 = true := by decide +kernel
set_option maxRecDepth 1000000 in
theorem nm_ok_m194 : px_okM nm_cl nm_T nm_P nm_C10 nm_CE nm_mf 10 0 9 nm_m194 = true := by decide +kernel
set_option maxRecDepth 1000000 in
theorem nm_ok_m195 : px_okM nm_cl nm_T nm_P nm_C10 nm_CE nm_mf 10 0 9 nm_m195 = true := by decide +kernel
set_option maxRecDepth 1000000 in
theorem nm_ok_m196 : px_okM nm_cl nm_T nm_P nm_C10 nm_CE nm_mf 10 0 9 nm_m196 = true := by decide +kernel
set_option maxRecDepth 1000000 in
theorem nm_ok_m197 : px_okM nm_cl nm_T nm_P nm_C10 nm_CE nm_mf 10 0 9 nm_m197 = true := by decide +kernel
set_option maxRecDepth 1000000 in
theorem nm_ok_m198 : px_okM nm_cl nm_T nm_P nm_C10 nm_CE nm_mf 10 0 9 nm_m198 = true := by decide +kernel
set_option maxRecDepth 1000000 in
theorem nm_ok_m199 : px_okM nm_cl nm_T nm_P nm_C10 nm_CE nm_mf 10 0 9 nm_m199 = true := by decide +kernel
set_option maxRecDepth 1000000 in
theorem nm_ok_m200 : px_okM nm_cl nm_T nm_P nm_C10 nm_CE nm_mf 10 0 9 nm_m200 = true := by decide +kernel
set_option maxRecDepth 1000000 in
theorem nm_ok_m201 : px_okM nm_cl nm_T nm_P nm_C10 nm_CE nm_mf 10 0 9 nm_m201 = true := by decide +kernel
set_option maxRecDepth 1000000 in
theorem nm_ok_m202 : px_okM nm_cl nm_T nm_P nm_C10 nm_CE nm_mf 10 0 9 nm_m202 = true := by decide +kernel
set_option maxRecDepth 1000000 in
theorem nm_ok_m203 : px_okM nm_cl nm_T nm_P nm_C10 nm_CE nm_mf 10 0 9 nm_m203 = true := by decide +kernel
set_option maxRecDepth 1000000 in
theorem nm_ok_m204 : px_okM nm_cl nm_T nm_P nm_C10 nm_CE nm_mf 10 0 9 nm_m204 = true := by decide +kernel
set_option maxRecDepth 1000000 in
theorem nm_ok_m205 : px_okM nm_cl nm_T nm_P nm_C10 nm_CE nm_mf 10 0 9 nm_m205 = true := by decide +kernel
set_option maxRecDepth 1000000 in
theorem nm_ok_m206 : px_okM nm_cl nm_T nm_P nm_C10 nm_CE nm_mf 10 0 9 nm_m206 = true := by decide +kernel
set_option maxRecDepth 1000000 in
theorem nm_ok_m207 : px_okM nm_cl nm_T nm_P nm_C10 nm_CE nm_mf 10 0 9 nm_m207 = true := by decide +kernel
set_option maxRecDepth 1000000 in
theorem nm_ok_m208 : px_okM nm_cl nm_T nm_P nm_C10 nm_CE nm_mf 10 0 9 nm_m208 = true := by decide +kernel
set_option maxRecDepth 1000000 in
theorem nm_ok_m209 : px_okM nm_cl nm_T nm_P nm_C10 nm_CE nm_mf 10 0 9 nm_m209 = true := by decide +kernel
set_option maxRecDepth 1000000 in
theorem nm_ok_m210 : px_okM nm_cl nm_T nm_P nm_C10 nm_CE nm_mf 10 0 9 nm_m210 = true := by decide +kernel
set_option maxRecDepth 1000000 in
theorem nm_ok_m211 : px_okM nm_cl nm_T nm_P nm_C10 nm_CE nm_mf 10 0 9 nm_m211 = true := by decide +kernel
set_option maxRecDepth 1000000 in
theorem nm_ok_m212 : px_okM nm_cl nm_T nm_P nm_C10 nm_CE nm_mf 10 0 9 nm_m212 = true := by decide +kernel
set_option maxRecDepth 1000000 in
theorem nm_ok_m213 : px_okM nm_cl nm_T nm_P nm_C10 nm_CE nm_mf 10 0 9 nm_m213 = true := by decide +kernel
set_option maxRecDepth 1000000 in
theorem nm_ok_m214 : px_okM nm_cl nm_T nm_P nm_C10 nm_CE nm_mf 10 0 9 nm_m214 = true := by decide +kernel
set_option maxRecDepth 1000000 in
theorem nm_ok_m215 : px_okM nm_cl nm_T nm_P nm_C10 nm_CE nm_mf 10 0 9 nm_m215 = true := by decide +kernel
set_option maxRecDepth 1000000 in
theorem nm_ok_m216 : px_okM nm_cl nm_T nm_P nm_C10 nm_CE nm_mf 10 0 9 nm_m216 = true := by decide +kernel
set_option maxRecDepth 1000000 in
theorem nm_ok_m217 : px_okM nm_cl nm_T nm_P nm_C10 nm_CE nm_mf 10 0 9 nm_m217 = true := by decide +kernel
set_option maxRecDepth 1000000 in
theorem nm_ok_m218 : px_okM nm_cl nm_T nm_P nm_C10 nm_CE nm_mf 10 0 9 nm_m218 = true := by decide +kernel
set_option maxRecDepth 1000000 in
theorem nm_ok_m219 : px_okM nm_cl nm_T nm_P nm_C10 nm_CE nm_mf 10 0 9 nm_m219 = true := by decide +kernel
set_option maxRecDepth 1000000 in
theorem nm_ok_m220 : px_okM nm_cl nm_T nm_P nm_C10 nm_CE nm_mf 10 0 9 nm_m220 = true := by decide +kernel
set_option maxRecDepth 1000000 in
theorem nm_ok_m221 : px_okM nm_cl nm_T nm_P nm_C10 nm_CE nm_mf 10 0 9 nm_m221 = true := by decide +kernel
set_option maxRecDepth 1000000 in
theorem nm_ok_m222 : px_okM nm_cl nm_T nm_P nm_C10 nm_CE nm_mf 10 0 9 nm_m222 = true := by decide +kernel
set_option maxRecDepth 1000000 in
theorem nm_ok_m223 : px_okM nm_cl nm_T nm_P nm_C10 nm_CE nm_mf 10 0 9 nm_m223 = true := by decide +kernel
set_option maxRecDepth 1000000 in
theorem nm_ok_m224 : px_okM nm_cl nm_T nm_P nm_C10 nm_CE nm_mf 10 2 9 nm_m224 = true := by decide +kernel
set_option maxRecDepth 1000000 in
theorem nm_ok_m225 : px_okM nm_cl nm_T nm_P nm_C10 nm_CE nm_mf 10 0 9 nm_m225 = true := by decide +kernel
set_option maxRecDepth 1000000 in
theorem nm_okl0 : nm_lc0.all (fun q => decide (decode code q.1 = .ok (q.2.2, q.2.1)) && px_okI q.1 q.2.1 q.2.2) = true := by decide +kernel
set_option maxRecDepth 1000000 in
theorem nm_okl1 : nm_lc1.all (fun q => decide (decode code q.1 = .ok (q.2.2, q.2.1)) && px_okI q.1 q.2.1 q.2.2) = true := by decide +kernel
set_option maxRecDepth 1000000 in
theorem nm_okl2 : nm_lc2.all (fun q => decide (decode code q.1 = .ok (q.2.2, q.2.1)) && px_okI q.1 q.2.1 q.2.2) = true := by decide +kernel
set_option maxRecDepth 1000000 in
theorem nm_okl3 : nm_lc3.all (fun q => decide (decode code q.1 = .ok (q.2.2, q.2.1)) && px_okI q.1 q.2.1 q.2.2) = true := by decide +kernel
set_option maxRecDepth 1000000 in
theorem nm_okl4 : nm_lc4.all (fun q => decide (decode code q.1 = .ok (q.2.2, q.2.1)) && px_okI q.1 q.2.1 q.2.2) = true := by decide +kernel
set_option maxRecDepth 1000000 in
theorem nm_okl5 : nm_lc5.all (fun q => decide (decode code q.1 = .ok (q.2.2, q.2.1)) && px_okI q.1 q.2.1 q.2.2) = true := by decide +kernel
set_option maxRecDepth 1000000 in
theorem nm_okl6 : nm_lc6.all (fun q => decide (decode code q.1 = .ok (q.2.2, q.2.1)) && px_okI q.1 q.2.1 q.2.2) = true := by decide +kernel
set_option maxRecDepth 1000000 in
theorem nm_okl7 : nm_lc7.all (fun q => decide (decode code q.1 = .ok (q.2.2, q.2.1)) && px_okI q.1 q.2.1 q.2.2) = true := by decide +kernel
set_option maxRecDepth 1000000 in
theorem nm_okl8 : nm_lc8.all (fun q => decide (decode code q.1 = .ok (q.2.2, q.2.1)) && px_okI q.1 q.2.1 q.2.2) = true := by decide +kernel
set_option maxRecDepth 1000000 in
theorem nm_okl9 : nm_lc9.all (fun q => decide (decode code q.1 = .ok (q.2.2, q.2.1)) && px_okI q.1 q.2.1 q.2.2) = true := by decide +kernel
set_option maxRecDepth 1000000 in
theorem nm_okl10 : nm_lc10.all (fun q => decide (decode code q.1 = .ok (q.2.2, q.2.1)) && px_okI q.1 q.2.1 q.2.2) = true := by decide +kernel
set_option maxRecDepth 1000000 in
theorem nm_okl11 : nm_lc11.all (fun q => decide (decode code q.1 = .ok (q.2.2, q.2.1)) && px_okI q.1 q.2.1 q.2.2) = true := by decide +kernel
set_option maxRecDepth 1000000 in
theorem nm_okl12 : nm_lc12.all (fun q => decide (decode code q.1 = .ok (q.2.2, q.2.1)) && px_okI q.1 q.2.1 q.2.2) = true := by decide +kernel
set_option maxRecDepth 1000000 in
theorem nm_okl13 : nm_lc13.all (fun q => decide (decode code q.1 = .ok (q.2.2, q.2.1)) && px_okI q.1 q.2.1 q.2.2) = true := by decide +kernel
end
section
set_option maxRecDepth 1000000 in
theorem nm_okl14 : nm_lc14.all (fun q => decide (decode code q.1 = .ok (q.2.2, q.2.1)) && px_okI q.1 q.2.1 q.2.2) = true := by decide +kernel
set_option maxRecDepth 1000000 in
theorem nm_okl15 : nm_lc15.all (fun q => decide (decode code q.1 = .ok (q.2.2, q.2.1)) && px_okI q.1 q.2.1 q.2.2) = true := by decide +kernel
set_option maxRecDepth 1000000 in
theorem nm_okl16 : nm_lc16.all (fun q => decide (decode code q.1 = .ok (q.2.2, q.2.1)) && px_okI q.1 q.2.1 q.2.2) = true := by decide +kernel
set_option maxRecDepth 1000000 in
theorem nm_okl17 : nm_lc17.all (fun q => decide (decode code q.1 = .ok (q.2.2, q.2.1)) && px_okI q.1 q.2.1 q.2.2) = true := by decide +kernel
set_option maxRecDepth 1000000 in
theorem nm_okl18 : nm_lc18.all (fun q => decide (decode code q.1 = .ok (q.2.2, q.2.1)) && px_okI q.1 q.2.1 q.2.2) = true := by decide +kernel
set_option maxRecDepth 1000000 in
theorem nm_okl19 : nm_lc19.all (fun q => decide (decode code q.1 = .ok (q.2.2, q.2.1)) && px_okI q.1 q.2.1 q.2.2) = true := by decide +kernel
set_option maxRecDepth 1000000 in
theorem nm_okl20 : nm_lc20.all (fun q => decide (decode code q.1 = .ok (q.2.2, q.2.1)) && px_okI q.1 q.2.1 q.2.2) = true := by decide +kernel
set_option maxRecDepth 1000000 in
theorem nm_okl21 : nm_lc21.all (fun q => decide (decode code q.1 = .ok (q.2.2, q.2.1)) && px_okI q.1 q.2.1 q.2.2) = true := by decide +kernel
set_option maxRecDepth 1000000 in
theorem nm_okl22 : nm_lc22.all (fun q => decide (decode code q.1 = .ok (q.2.2, q.2.1)) && px_okI q.1 q.2.1 q.2.2) = true := by decide +kernel
set_option maxRecDepth 1000000 in
theorem nm_okl23 : nm_lc23.all (fun q => decide (decode code q.1 = .ok (q.2.2, q.2.1)) && px_okI q.1 q.2.1 q.2.2) = true := by decide +kernel
set_option maxRecDepth 1000000 in
theorem nm_okl24 : nm_lc24.all (fun q => decide (decode code q.1 = .ok (q.2.2, q.2.1)) && px_okI q.1 q.2.1 q.2.2) = true := by decide +kernel
set_option maxRecDepth 1000000 in
theorem nm_okl25 : nm_lc25.all (fun q => decide (decode code q.1 = .ok (q.2.2, q.2.1)) && px_okI q.1 q.2.1 q.2.2) = true := by decide +kernel
set_option maxRecDepth 1000000 in
theorem nm_okl26 : nm_lc26.all (fun q => decide (decode code q.1 = .ok (q.2.2, q.2.1)) && px_okI q.1 q.2.1 q.2.2) = true := by decide +kernel
set_option maxRecDepth 1000000 in
theorem nm_okl27 : nm_lc27.all (fun q => decide (decode code q.1 = .ok (q.2.2, q.2.1)) && px_okI q.1 q.2.1 q.2.2) = true := by decide +kernel
theorem nm_okC_law : px_okC nm_law = true := by
  show (nm_lc0 ++ (nm_lc1 ++ (nm_lc2 ++ (nm_lc3 ++ (nm_lc4 ++ (nm_lc5 ++ (nm_lc6 ++ (nm_lc7 ++ (nm_lc8 ++ (nm_lc9 ++ (nm_lc10 ++ (nm_lc11 ++ (nm_lc12 ++ (nm_lc13 ++ (nm_lc14 ++ (nm_lc15 ++ (nm_lc16 ++ (nm_lc17 ++ (nm_lc18 ++ (nm_lc19 ++ (nm_lc20 ++ (nm_lc21 ++ (nm_lc22 ++ (nm_lc23 ++ (nm_lc24 ++ (nm_lc25 ++ (nm_lc26 ++ (nm_lc27)))))))))))))))))))))))))))).all (fun q => decide (decode code q.1 = .ok (q.2.2, q.2.1)) && px_okI q.1 q.2.1 q.2.2) = true
  simp only [List.all_append, nm_okl0, nm_okl1, nm_okl2, nm_okl3, nm_okl4, nm_okl5, nm_okl6, nm_okl7, nm_okl8, nm_okl9, nm_okl10, nm_okl11, nm_okl12, nm_okl13, nm_okl14, nm_okl15, nm_okl16, nm_okl17, nm_okl18, nm_okl19, nm_okl20, nm_okl21, nm_okl22, nm_okl23, nm_okl24, nm_okl25, nm_okl26, nm_okl27, Bool.and_self]
set_option maxRecDepth 1000000 in
theorem nm_okp_law : (px_cp nm_law).all (px_okR nm_cl nm_T nm_P nm_C11 nm_CE nm_mf 11 0 0 nm_law) = true := by decide +kernel
theorem nm_ok_law : px_okM nm_cl nm_T nm_P nm_C11 nm_CE nm_mf 11 0 0 nm_law = true := by
  show (px_okC nm_law && _) = true
  rw [nm_okC_law, nm_okp_law]
  rfl
set_option maxRecDepth 1000000 in
theorem nm_ok_lrow0 : px_okM nm_cl nm_T nm_P nm_C11 nm_CE nm_mf 11 0 0 nm_lrow0 = true := by decide +kernel
set_option maxRecDepth 1000000 in
theorem nm_ok_lrow1 : px_okM nm_cl nm_T nm_P nm_C11 nm_CE nm_mf 11 0 0 nm_lrow1 = true := by decide +kernel
set_option maxRecDepth 1000000 in
theorem nm_ok_xrow1 : px_okM nm_cl nm_T nm_P nm_C9 nm_CE nm_mf 9 0 8 nm_xrow1 = true := by decide +kernel
end
section
def nm_ALL : List Cond := lw_tbl.filter goodWord
def nm_EXT : List Cond := lw_tbl.filter px_isX
theorem nm_w_good (q : px_Cw) (h : q.1 ≠ 20 ∧ q.1 ≠ 21) : goodWord (nm_w q) = true := by
  obtain ⟨k, l, v⟩ := q
  unfold nm_w px_w
  split <;> rename_i heq <;> first | rfl | (exfalso; cases heq; simp at h; done) | (split <;> first | rfl | (unfold u_lay; split <;> rfl))
theorem nm_d0 : (parseMethodDescriptor "()V").map (fun d => d.parameters.length) = some 0 := by decide +kernel
theorem nm_d1 : (parseMethodDescriptor "(LNamesInBags$Chest;)V").map (fun d => d.parameters.length) = some 1 := by decide +kernel
theorem nm_d2 : (parseMethodDescriptor "(JI)V").map (fun d => d.parameters.length) = some 2 := by decide +kernel
theorem nm_d3 : (parseMethodDescriptor "(II)V").map (fun d => d.parameters.length) = some 2 := by decide +kernel
theorem nm_d4 : (parseMethodDescriptor "(I)I").map (fun d => d.parameters.length) = some 1 := by decide +kernel
theorem nm_d5 : (parseMethodDescriptor "(II)I").map (fun d => d.parameters.length) = some 2 := by decide +kernel
theorem nm_d6 : (parseMethodDescriptor "(III)I").map (fun d => d.parameters.length) = some 3 := by decide +kernel
theorem nm_d7 : (parseMethodDescriptor "(LNamesInBags$Course;)V").map (fun d => d.parameters.length) = some 1 := by decide +kernel
theorem nm_d8 : (parseMethodDescriptor "(LNamesInBags$Course;)Z").map (fun d => d.parameters.length) = some 1 := by decide +kernel
theorem nm_d9 : (parseMethodDescriptor "(LNamesInBags$Course;I)Z").map (fun d => d.parameters.length) = some 2 := by decide +kernel
theorem nm_d10 : (parseMethodDescriptor "(LNamesInBags$Town;)V").map (fun d => d.parameters.length) = some 1 := by decide +kernel
theorem nm_d11 : (parseMethodDescriptor "(LNamesInBags$Rule;III)V").map (fun d => d.parameters.length) = some 4 := by decide +kernel
theorem nm_d12 : (parseMethodDescriptor "(I)Z").map (fun d => d.parameters.length) = some 1 := by decide +kernel
theorem nm_d13 : (parseMethodDescriptor "(I)V").map (fun d => d.parameters.length) = some 1 := by decide +kernel
theorem nm_d14 : (parseMethodDescriptor "(III)V").map (fun d => d.parameters.length) = some 3 := by decide +kernel
theorem nm_d15 : (parseMethodDescriptor "(J)V").map (fun d => d.parameters.length) = some 1 := by decide +kernel
theorem nm_d16 : (parseMethodDescriptor "(LNamesInBags$Text;)V").map (fun d => d.parameters.length) = some 1 := by decide +kernel
theorem nm_d17 : (parseMethodDescriptor "(JI)I").map (fun d => d.parameters.length) = some 2 := by decide +kernel
theorem nm_d18 : (parseMethodDescriptor "(JIJ)Z").map (fun d => d.parameters.length) = some 3 := by decide +kernel
theorem nm_d19 : (parseMethodDescriptor "()I").map (fun d => d.parameters.length) = some 0 := by decide +kernel
theorem nm_d20 : (parseMethodDescriptor "()J").map (fun d => d.parameters.length) = some 0 := by decide +kernel
theorem nm_d21 : (parseMethodDescriptor "(I)J").map (fun d => d.parameters.length) = some 1 := by decide +kernel
theorem nm_d22 : (parseMethodDescriptor "(II)J").map (fun d => d.parameters.length) = some 2 := by decide +kernel
theorem nm_d23 : (parseMethodDescriptor "(III)Z").map (fun d => d.parameters.length) = some 3 := by decide +kernel
theorem nm_d24 : (parseMethodDescriptor "(IIII)I").map (fun d => d.parameters.length) = some 4 := by decide +kernel
theorem nm_d25 : (parseMethodDescriptor "(IZ)Z").map (fun d => d.parameters.length) = some 2 := by decide +kernel
theorem nm_d26 : (parseMethodDescriptor "(LNamesInBags$Rule;)I").map (fun d => d.parameters.length) = some 1 := by decide +kernel
theorem nm_d27 : (parseMethodDescriptor "()Z").map (fun d => d.parameters.length) = some 0 := by decide +kernel
theorem nm_d28 : (parseMethodDescriptor "(JI)Z").map (fun d => d.parameters.length) = some 2 := by decide +kernel
theorem nm_d29 : (parseMethodDescriptor "(LNamesInBags$Rule;II)Z").map (fun d => d.parameters.length) = some 3 := by decide +kernel
theorem nm_d30 : (parseMethodDescriptor "(II)Z").map (fun d => d.parameters.length) = some 2 := by decide +kernel
theorem nm_d31 : (parseMethodDescriptor "(IIIII)I").map (fun d => d.parameters.length) = some 5 := by decide +kernel
theorem nm_d32 : (parseMethodDescriptor "(JJJ)Z").map (fun d => d.parameters.length) = some 3 := by decide +kernel
theorem nm_d33 : (parseMethodDescriptor "(Z)I").map (fun d => d.parameters.length) = some 1 := by decide +kernel
theorem nm_d34 : (parseMethodDescriptor "(C)Z").map (fun d => d.parameters.length) = some 1 := by decide +kernel
theorem nm_d35 : (parseMethodDescriptor "(JJ)V").map (fun d => d.parameters.length) = some 2 := by decide +kernel
theorem nm_d36 : (parseMethodDescriptor "(JJ)I").map (fun d => d.parameters.length) = some 2 := by decide +kernel
theorem nm_d37 : (parseMethodDescriptor "(IJ)Z").map (fun d => d.parameters.length) = some 2 := by decide +kernel
theorem nm_o0 : "NamesInBags$Chest" ≠ "java/lang/invoke/MethodHandle" ∧ "NamesInBags$Chest" ≠ "java/lang/invoke/VarHandle" ∧ plainName "NamesInBags$Chest" = true := by decide +kernel
theorem nm_o1 : "NamesInBags$Course" ≠ "java/lang/invoke/MethodHandle" ∧ "NamesInBags$Course" ≠ "java/lang/invoke/VarHandle" ∧ plainName "NamesInBags$Course" = true := by decide +kernel
theorem nm_o2 : "java/lang/Integer" ≠ "java/lang/invoke/MethodHandle" ∧ "java/lang/Integer" ≠ "java/lang/invoke/VarHandle" ∧ plainName "java/lang/Integer" = true := by decide +kernel
theorem nm_o3 : "NamesInBags$Rule" ≠ "java/lang/invoke/MethodHandle" ∧ "NamesInBags$Rule" ≠ "java/lang/invoke/VarHandle" ∧ plainName "NamesInBags$Rule" = true := by decide +kernel
theorem nm_o4 : "NamesInBags$Town" ≠ "java/lang/invoke/MethodHandle" ∧ "NamesInBags$Town" ≠ "java/lang/invoke/VarHandle" ∧ plainName "NamesInBags$Town" = true := by decide +kernel
theorem nm_o5 : "NamesInBags$Row" ≠ "java/lang/invoke/MethodHandle" ∧ "NamesInBags$Row" ≠ "java/lang/invoke/VarHandle" ∧ plainName "NamesInBags$Row" = true := by decide +kernel
theorem nm_o6 : "NamesInBags$Table" ≠ "java/lang/invoke/MethodHandle" ∧ "NamesInBags$Table" ≠ "java/lang/invoke/VarHandle" ∧ plainName "NamesInBags$Table" = true := by decide +kernel
theorem nm_o7 : "NamesInBags$Text" ≠ "java/lang/invoke/MethodHandle" ∧ "NamesInBags$Text" ≠ "java/lang/invoke/VarHandle" ∧ plainName "NamesInBags$Text" = true := by decide +kernel
theorem nm_o8 : "NamesInBags$Walk" ≠ "java/lang/invoke/MethodHandle" ∧ "NamesInBags$Walk" ≠ "java/lang/invoke/VarHandle" ∧ plainName "NamesInBags$Walk" = true := by decide +kernel
theorem nm_o9 : "NamesInBags" ≠ "java/lang/invoke/MethodHandle" ∧ "NamesInBags" ≠ "java/lang/invoke/VarHandle" ∧ plainName "NamesInBags" = true := by decide +kernel
theorem nm_o10 : "NamesInBagsModel" ≠ "java/lang/invoke/MethodHandle" ∧ "NamesInBagsModel" ≠ "java/lang/invoke/VarHandle" ∧ plainName "NamesInBagsModel" = true := by decide +kernel
theorem nm_o11 : "NamesInBagsLaw" ≠ "java/lang/invoke/MethodHandle" ∧ "NamesInBagsLaw" ≠ "java/lang/invoke/VarHandle" ∧ plainName "NamesInBagsLaw" = true := by decide +kernel
theorem nm_w_X (q : px_Cw) (h : q ∈ nm_CE) : px_isX (nm_w q) = true := by
  revert q
  decide +kernel
theorem nm_f0 : (nm_mf[0]? = some (2, 0, 0)) ∧ (((px_nm nm_m0).cls ≠ "java/lang/invoke/MethodHandle" ∧ (px_nm nm_m0).cls ≠ "java/lang/invoke/VarHandle" ∧ (parseMethodDescriptor (px_nm nm_m0).desc).map (fun d => d.parameters.length) = some 0) ∧ plainName (px_nm nm_m0).cls = true) := ⟨rfl, ⟨nm_o0.1, nm_o0.2.1, nm_d0⟩, nm_o0.2.2⟩
theorem nm_f1 : (nm_mf[1]? = some (1, 1, 0)) ∧ (((px_nm nm_m1).cls ≠ "java/lang/invoke/MethodHandle" ∧ (px_nm nm_m1).cls ≠ "java/lang/invoke/VarHandle" ∧ (parseMethodDescriptor (px_nm nm_m1).desc).map (fun d => d.parameters.length) = some 1) ∧ plainName (px_nm nm_m1).cls = true) := ⟨rfl, ⟨nm_o0.1, nm_o0.2.1, nm_d1⟩, nm_o0.2.2⟩
theorem nm_f2 : (nm_mf[2]? = some (1, 2, 0)) ∧ (((px_nm nm_m2).cls ≠ "java/lang/invoke/MethodHandle" ∧ (px_nm nm_m2).cls ≠ "java/lang/invoke/VarHandle" ∧ (parseMethodDescriptor (px_nm nm_m2).desc).map (fun d => d.parameters.length) = some 2) ∧ plainName (px_nm nm_m2).cls = true) := ⟨rfl, ⟨nm_o0.1, nm_o0.2.1, nm_d2⟩, nm_o0.2.2⟩
theorem nm_f3 : (nm_mf[3]? = some (1, 2, 0)) ∧ (((px_nm nm_m3).cls ≠ "java/lang/invoke/MethodHandle" ∧ (px_nm nm_m3).cls ≠ "java/lang/invoke/VarHandle" ∧ (parseMethodDescriptor (px_nm nm_m3).desc).map (fun d => d.parameters.length) = some 2) ∧ plainName (px_nm nm_m3).cls = true) := ⟨rfl, ⟨nm_o0.1, nm_o0.2.1, nm_d3⟩, nm_o0.2.2⟩
theorem nm_f4 : (nm_mf[4]? = some (1, 2, 0)) ∧ (((px_nm nm_m4).cls ≠ "java/lang/invoke/MethodHandle" ∧ (px_nm nm_m4).cls ≠ "java/lang/invoke/VarHandle" ∧ (parseMethodDescriptor (px_nm nm_m4).desc).map (fun d => d.parameters.length) = some 2) ∧ plainName (px_nm nm_m4).cls = true) := ⟨rfl, ⟨nm_o0.1, nm_o0.2.1, nm_d3⟩, nm_o0.2.2⟩
theorem nm_f5 : (nm_mf[5]? = some (1, 1, 0)) ∧ (((px_nm nm_m5).cls ≠ "java/lang/invoke/MethodHandle" ∧ (px_nm nm_m5).cls ≠ "java/lang/invoke/VarHandle" ∧ (parseMethodDescriptor (px_nm nm_m5).desc).map (fun d => d.parameters.length) = some 1) ∧ plainName (px_nm nm_m5).cls = true) := ⟨rfl, ⟨nm_o0.1, nm_o0.2.1, nm_d4⟩, nm_o0.2.2⟩
theorem nm_f6 : (nm_mf[6]? = some (1, 1, 1)) ∧ (((px_nm nm_m6).cls ≠ "java/lang/invoke/MethodHandle" ∧ (px_nm nm_m6).cls ≠ "java/lang/invoke/VarHandle" ∧ (parseMethodDescriptor (px_nm nm_m6).desc).map (fun d => d.parameters.length) = some 1) ∧ plainName (px_nm nm_m6).cls = true) := ⟨rfl, ⟨nm_o1.1, nm_o1.2.1, nm_d4⟩, nm_o1.2.2⟩
theorem nm_f7 : (nm_mf[7]? = some (1, 2, 1)) ∧ (((px_nm nm_m7).cls ≠ "java/lang/invoke/MethodHandle" ∧ (px_nm nm_m7).cls ≠ "java/lang/invoke/VarHandle" ∧ (parseMethodDescriptor (px_nm nm_m7).desc).map (fun d => d.parameters.length) = some 2) ∧ plainName (px_nm nm_m7).cls = true) := ⟨rfl, ⟨nm_o1.1, nm_o1.2.1, nm_d5⟩, nm_o1.2.2⟩
theorem nm_f8 : (nm_mf[8]? = some (1, 3, 1)) ∧ (((px_nm nm_m8).cls ≠ "java/lang/invoke/MethodHandle" ∧ (px_nm nm_m8).cls ≠ "java/lang/invoke/VarHandle" ∧ (parseMethodDescriptor (px_nm nm_m8).desc).map (fun d => d.parameters.length) = some 3) ∧ plainName (px_nm nm_m8).cls = true) := ⟨rfl, ⟨nm_o1.1, nm_o1.2.1, nm_d6⟩, nm_o1.2.2⟩
theorem nm_f9 : (nm_mf[9]? = some (1, 1, 1)) ∧ (((px_nm nm_m9).cls ≠ "java/lang/invoke/MethodHandle" ∧ (px_nm nm_m9).cls ≠ "java/lang/invoke/VarHandle" ∧ (parseMethodDescriptor (px_nm nm_m9).desc).map (fun d => d.parameters.length) = some 1) ∧ plainName (px_nm nm_m9).cls = true) := ⟨rfl, ⟨nm_o1.1, nm_o1.2.1, nm_d4⟩, nm_o1.2.2⟩
theorem nm_f10 : (nm_mf[10]? = some (1, 1, 0)) ∧ (((px_nm nm_m10).cls ≠ "java/lang/invoke/MethodHandle" ∧ (px_nm nm_m10).cls ≠ "java/lang/invoke/VarHandle" ∧ (parseMethodDescriptor (px_nm nm_m10).desc).map (fun d => d.parameters.length) = some 1) ∧ plainName (px_nm nm_m10).cls = true) := ⟨rfl, ⟨nm_o0.1, nm_o0.2.1, nm_d7⟩, nm_o0.2.2⟩
theorem nm_f11 : (nm_mf[11]? = some (0, 1, 0)) ∧ (((px_nm nm_m11).cls ≠ "java/lang/invoke/MethodHandle" ∧ (px_nm nm_m11).cls ≠ "java/lang/invoke/VarHandle" ∧ (parseMethodDescriptor (px_nm nm_m11).desc).map (fun d => d.parameters.length) = some 1) ∧ plainName (px_nm nm_m11).cls = true) := ⟨rfl, ⟨nm_o2.1, nm_o2.2.1, nm_d4⟩, nm_o2.2.2⟩
theorem nm_f12 : (nm_mf[12]? = some (1, 1, 0)) ∧ (((px_nm nm_m12).cls ≠ "java/lang/invoke/MethodHandle" ∧ (px_nm nm_m12).cls ≠ "java/lang/invoke/VarHandle" ∧ (parseMethodDescriptor (px_nm nm_m12).desc).map (fun d => d.parameters.length) = some 1) ∧ plainName (px_nm nm_m12).cls = true) := ⟨rfl, ⟨nm_o0.1, nm_o0.2.1, nm_d8⟩, nm_o0.2.2⟩
theorem nm_f13 : (nm_mf[13]? = some (1, 2, 0)) ∧ (((px_nm nm_m13).cls ≠ "java/lang/invoke/MethodHandle" ∧ (px_nm nm_m13).cls ≠ "java/lang/invoke/VarHandle" ∧ (parseMethodDescriptor (px_nm nm_m13).desc).map (fun d => d.parameters.length) = some 2) ∧ plainName (px_nm nm_m13).cls = true) := ⟨rfl, ⟨nm_o0.1, nm_o0.2.1, nm_d9⟩, nm_o0.2.2⟩
theorem nm_f14 : (nm_mf[14]? = some (1, 1, 0)) ∧ (((px_nm nm_m14).cls ≠ "java/lang/invoke/MethodHandle" ∧ (px_nm nm_m14).cls ≠ "java/lang/invoke/VarHandle" ∧ (parseMethodDescriptor (px_nm nm_m14).desc).map (fun d => d.parameters.length) = some 1) ∧ plainName (px_nm nm_m14).cls = true) := ⟨rfl, ⟨nm_o0.1, nm_o0.2.1, nm_d7⟩, nm_o0.2.2⟩
theorem nm_f15 : (nm_mf[15]? = some (2, 0, 3)) ∧ (((px_nm nm_m15).cls ≠ "java/lang/invoke/MethodHandle" ∧ (px_nm nm_m15).cls ≠ "java/lang/invoke/VarHandle" ∧ (parseMethodDescriptor (px_nm nm_m15).desc).map (fun d => d.parameters.length) = some 0) ∧ plainName (px_nm nm_m15).cls = true) := ⟨rfl, ⟨nm_o3.1, nm_o3.2.1, nm_d0⟩, nm_o3.2.2⟩
theorem nm_f16 : (nm_mf[16]? = some (2, 1, 1)) ∧ (((px_nm nm_m16).cls ≠ "java/lang/invoke/MethodHandle" ∧ (px_nm nm_m16).cls ≠ "java/lang/invoke/VarHandle" ∧ (parseMethodDescriptor (px_nm nm_m16).desc).map (fun d => d.parameters.length) = some 1) ∧ plainName (px_nm nm_m16).cls = true) := ⟨rfl, ⟨nm_o1.1, nm_o1.2.1, nm_d10⟩, nm_o1.2.2⟩
theorem nm_f17 : (nm_mf[17]? = some (1, 4, 1)) ∧ (((px_nm nm_m17).cls ≠ "java/lang/invoke/MethodHandle" ∧ (px_nm nm_m17).cls ≠ "java/lang/invoke/VarHandle" ∧ (parseMethodDescriptor (px_nm nm_m17).desc).map (fun d => d.parameters.length) = some 4) ∧ plainName (px_nm nm_m17).cls = true) := ⟨rfl, ⟨nm_o1.1, nm_o1.2.1, nm_d11⟩, nm_o1.2.2⟩
theorem nm_f18 : (nm_mf[18]? = some (1, 1, 6)) ∧ (((px_nm nm_m18).cls ≠ "java/lang/invoke/MethodHandle" ∧ (px_nm nm_m18).cls ≠ "java/lang/invoke/VarHandle" ∧ (parseMethodDescriptor (px_nm nm_m18).desc).map (fun d => d.parameters.length) = some 1) ∧ plainName (px_nm nm_m18).cls = true) := ⟨rfl, ⟨nm_o4.1, nm_o4.2.1, nm_d12⟩, nm_o4.2.2⟩
theorem nm_f19 : (nm_mf[19]? = some (1, 1, 6)) ∧ (((px_nm nm_m19).cls ≠ "java/lang/invoke/MethodHandle" ∧ (px_nm nm_m19).cls ≠ "java/lang/invoke/VarHandle" ∧ (parseMethodDescriptor (px_nm nm_m19).desc).map (fun d => d.parameters.length) = some 1) ∧ plainName (px_nm nm_m19).cls = true) := ⟨rfl, ⟨nm_o4.1, nm_o4.2.1, nm_d4⟩, nm_o4.2.2⟩
theorem nm_f20 : (nm_mf[20]? = some (1, 1, 6)) ∧ (((px_nm nm_m20).cls ≠ "java/lang/invoke/MethodHandle" ∧ (px_nm nm_m20).cls ≠ "java/lang/invoke/VarHandle" ∧ (parseMethodDescriptor (px_nm nm_m20).desc).map (fun d => d.parameters.length) = some 1) ∧ plainName (px_nm nm_m20).cls = true) := ⟨rfl, ⟨nm_o4.1, nm_o4.2.1, nm_d4⟩, nm_o4.2.2⟩
theorem nm_f21 : (nm_mf[21]? = some (1, 1, 6)) ∧ (((px_nm nm_m21).cls ≠ "java/lang/invoke/MethodHandle" ∧ (px_nm nm_m21).cls ≠ "java/lang/invoke/VarHandle" ∧ (parseMethodDescriptor (px_nm nm_m21).desc).map (fun d => d.parameters.length) = some 1) ∧ plainName (px_nm nm_m21).cls = true) := ⟨rfl, ⟨nm_o4.1, nm_o4.2.1, nm_d4⟩, nm_o4.2.2⟩
theorem nm_f22 : (nm_mf[22]? = some (1, 1, 6)) ∧ (((px_nm nm_m22).cls ≠ "java/lang/invoke/MethodHandle" ∧ (px_nm nm_m22).cls ≠ "java/lang/invoke/VarHandle" ∧ (parseMethodDescriptor (px_nm nm_m22).desc).map (fun d => d.parameters.length) = some 1) ∧ plainName (px_nm nm_m22).cls = true) := ⟨rfl, ⟨nm_o4.1, nm_o4.2.1, nm_d4⟩, nm_o4.2.2⟩
theorem nm_f23 : (nm_mf[23]? = some (1, 1, 1)) ∧ (((px_nm nm_m23).cls ≠ "java/lang/invoke/MethodHandle" ∧ (px_nm nm_m23).cls ≠ "java/lang/invoke/VarHandle" ∧ (parseMethodDescriptor (px_nm nm_m23).desc).map (fun d => d.parameters.length) = some 1) ∧ plainName (px_nm nm_m23).cls = true) := ⟨rfl, ⟨nm_o1.1, nm_o1.2.1, nm_d13⟩, nm_o1.2.2⟩
theorem nm_f24 : (nm_mf[24]? = some (1, 2, 1)) ∧ (((px_nm nm_m24).cls ≠ "java/lang/invoke/MethodHandle" ∧ (px_nm nm_m24).cls ≠ "java/lang/invoke/VarHandle" ∧ (parseMethodDescriptor (px_nm nm_m24).desc).map (fun d => d.parameters.length) = some 2) ∧ plainName (px_nm nm_m24).cls = true) := ⟨rfl, ⟨nm_o1.1, nm_o1.2.1, nm_d5⟩, nm_o1.2.2⟩
theorem nm_f25 : (nm_mf[25]? = some (1, 3, 1)) ∧ (((px_nm nm_m25).cls ≠ "java/lang/invoke/MethodHandle" ∧ (px_nm nm_m25).cls ≠ "java/lang/invoke/VarHandle" ∧ (parseMethodDescriptor (px_nm nm_m25).desc).map (fun d => d.parameters.length) = some 3) ∧ plainName (px_nm nm_m25).cls = true) := ⟨rfl, ⟨nm_o1.1, nm_o1.2.1, nm_d14⟩, nm_o1.2.2⟩
theorem nm_f26 : (nm_mf[26]? = some (2, 0, 2)) ∧ (((px_nm nm_m26).cls ≠ "java/lang/invoke/MethodHandle" ∧ (px_nm nm_m26).cls ≠ "java/lang/invoke/VarHandle" ∧ (parseMethodDescriptor (px_nm nm_m26).desc).map (fun d => d.parameters.length) = some 0) ∧ plainName (px_nm nm_m26).cls = true) := ⟨rfl, ⟨nm_o5.1, nm_o5.2.1, nm_d0⟩, nm_o5.2.2⟩
theorem nm_f27 : (nm_mf[27]? = some (1, 0, 2)) ∧ (((px_nm nm_m27).cls ≠ "java/lang/invoke/MethodHandle" ∧ (px_nm nm_m27).cls ≠ "java/lang/invoke/VarHandle" ∧ (parseMethodDescriptor (px_nm nm_m27).desc).map (fun d => d.parameters.length) = some 0) ∧ plainName (px_nm nm_m27).cls = true) := ⟨rfl, ⟨nm_o5.1, nm_o5.2.1, nm_d0⟩, nm_o5.2.2⟩
theorem nm_f28 : (nm_mf[28]? = some (1, 1, 2)) ∧ (((px_nm nm_m28).cls ≠ "java/lang/invoke/MethodHandle" ∧ (px_nm nm_m28).cls ≠ "java/lang/invoke/VarHandle" ∧ (parseMethodDescriptor (px_nm nm_m28).desc).map (fun d => d.parameters.length) = some 1) ∧ plainName (px_nm nm_m28).cls = true) := ⟨rfl, ⟨nm_o5.1, nm_o5.2.1, nm_d15⟩, nm_o5.2.2⟩
theorem nm_f29 : (nm_mf[29]? = some (1, 1, 2)) ∧ (((px_nm nm_m29).cls ≠ "java/lang/invoke/MethodHandle" ∧ (px_nm nm_m29).cls ≠ "java/lang/invoke/VarHandle" ∧ (parseMethodDescriptor (px_nm nm_m29).desc).map (fun d => d.parameters.length) = some 1) ∧ plainName (px_nm nm_m29).cls = true) := ⟨rfl, ⟨nm_o5.1, nm_o5.2.1, nm_d15⟩, nm_o5.2.2⟩
theorem nm_f30 : (nm_mf[30]? = some (1, 1, 3)) ∧ (((px_nm nm_m30).cls ≠ "java/lang/invoke/MethodHandle" ∧ (px_nm nm_m30).cls ≠ "java/lang/invoke/VarHandle" ∧ (parseMethodDescriptor (px_nm nm_m30).desc).map (fun d => d.parameters.length) = some 1) ∧ plainName (px_nm nm_m30).cls = true) := ⟨rfl, ⟨nm_o3.1, nm_o3.2.1, nm_d16⟩, nm_o3.2.2⟩
theorem nm_f31 : (nm_mf[31]? = some (2, 0, 4)) ∧ (((px_nm nm_m31).cls ≠ "java/lang/invoke/MethodHandle" ∧ (px_nm nm_m31).cls ≠ "java/lang/invoke/VarHandle" ∧ (parseMethodDescriptor (px_nm nm_m31).desc).map (fun d => d.parameters.length) = some 0) ∧ plainName (px_nm nm_m31).cls = true) := ⟨rfl, ⟨nm_o6.1, nm_o6.2.1, nm_d0⟩, nm_o6.2.2⟩
theorem nm_f32 : (nm_mf[32]? = some (0, 2, 4)) ∧ (((px_nm nm_m32).cls ≠ "java/lang/invoke/MethodHandle" ∧ (px_nm nm_m32).cls ≠ "java/lang/invoke/VarHandle" ∧ (parseMethodDescriptor (px_nm nm_m32).desc).map (fun d => d.parameters.length) = some 2) ∧ plainName (px_nm nm_m32).cls = true) := ⟨rfl, ⟨nm_o6.1, nm_o6.2.1, nm_d17⟩, nm_o6.2.2⟩
theorem nm_f33 : (nm_mf[33]? = some (1, 0, 4)) ∧ (((px_nm nm_m33).cls ≠ "java/lang/invoke/MethodHandle" ∧ (px_nm nm_m33).cls ≠ "java/lang/invoke/VarHandle" ∧ (parseMethodDescriptor (px_nm nm_m33).desc).map (fun d => d.parameters.length) = some 0) ∧ plainName (px_nm nm_m33).cls = true) := ⟨rfl, ⟨nm_o6.1, nm_o6.2.1, nm_d0⟩, nm_o6.2.2⟩
theorem nm_f34 : (nm_mf[34]? = some (1, 3, 4)) ∧ (((px_nm nm_m34).cls ≠ "java/lang/invoke/MethodHandle" ∧ (px_nm nm_m34).cls ≠ "java/lang/invoke/VarHandle" ∧ (parseMethodDescriptor (px_nm nm_m34).desc).map (fun d => d.parameters.length) = some 3) ∧ plainName (px_nm nm_m34).cls = true) := ⟨rfl, ⟨nm_o6.1, nm_o6.2.1, nm_d18⟩, nm_o6.2.2⟩
theorem nm_f35 : (nm_mf[35]? = some (1, 1, 4)) ∧ (((px_nm nm_m35).cls ≠ "java/lang/invoke/MethodHandle" ∧ (px_nm nm_m35).cls ≠ "java/lang/invoke/VarHandle" ∧ (parseMethodDescriptor (px_nm nm_m35).desc).map (fun d => d.parameters.length) = some 1) ∧ plainName (px_nm nm_m35).cls = true) := ⟨rfl, ⟨nm_o6.1, nm_o6.2.1, nm_d4⟩, nm_o6.2.2⟩
theorem nm_f36 : (nm_mf[36]? = some (2, 0, 5)) ∧ (((px_nm nm_m36).cls ≠ "java/lang/invoke/MethodHandle" ∧ (px_nm nm_m36).cls ≠ "java/lang/invoke/VarHandle" ∧ (parseMethodDescriptor (px_nm nm_m36).desc).map (fun d => d.parameters.length) = some 0) ∧ plainName (px_nm nm_m36).cls = true) := ⟨rfl, ⟨nm_o7.1, nm_o7.2.1, nm_d0⟩, nm_o7.2.2⟩
theorem nm_f37 : (nm_mf[37]? = some (1, 1, 5)) ∧ (((px_nm nm_m37).cls ≠ "java/lang/invoke/MethodHandle" ∧ (px_nm nm_m37).cls ≠ "java/lang/invoke/VarHandle" ∧ (parseMethodDescriptor (px_nm nm_m37).desc).map (fun d => d.parameters.length) = some 1) ∧ plainName (px_nm nm_m37).cls = true) := ⟨rfl, ⟨nm_o7.1, nm_o7.2.1, nm_d12⟩, nm_o7.2.2⟩
theorem nm_f38 : (nm_mf[38]? = some (1, 1, 5)) ∧ (((px_nm nm_m38).cls ≠ "java/lang/invoke/MethodHandle" ∧ (px_nm nm_m38).cls ≠ "java/lang/invoke/VarHandle" ∧ (parseMethodDescriptor (px_nm nm_m38).desc).map (fun d => d.parameters.length) = some 1) ∧ plainName (px_nm nm_m38).cls = true) := ⟨rfl, ⟨nm_o7.1, nm_o7.2.1, nm_d12⟩, nm_o7.2.2⟩
theorem nm_f39 : (nm_mf[39]? = some (0, 2, 5)) ∧ (((px_nm nm_m39).cls ≠ "java/lang/invoke/MethodHandle" ∧ (px_nm nm_m39).cls ≠ "java/lang/invoke/VarHandle" ∧ (parseMethodDescriptor (px_nm nm_m39).desc).map (fun d => d.parameters.length) = some 2) ∧ plainName (px_nm nm_m39).cls = true) := ⟨rfl, ⟨nm_o7.1, nm_o7.2.1, nm_d5⟩, nm_o7.2.2⟩
theorem nm_f40 : (nm_mf[40]? = some (1, 0, 5)) ∧ (((px_nm nm_m40).cls ≠ "java/lang/invoke/MethodHandle" ∧ (px_nm nm_m40).cls ≠ "java/lang/invoke/VarHandle" ∧ (parseMethodDescriptor (px_nm nm_m40).desc).map (fun d => d.parameters.length) = some 0) ∧ plainName (px_nm nm_m40).cls = true) := ⟨rfl, ⟨nm_o7.1, nm_o7.2.1, nm_d19⟩, nm_o7.2.2⟩
theorem nm_f41 : (nm_mf[41]? = some (2, 0, 6)) ∧ (((px_nm nm_m41).cls ≠ "java/lang/invoke/MethodHandle" ∧ (px_nm nm_m41).cls ≠ "java/lang/invoke/VarHandle" ∧ (parseMethodDescriptor (px_nm nm_m41).desc).map (fun d => d.parameters.length) = some 0) ∧ plainName (px_nm nm_m41).cls = true) := ⟨rfl, ⟨nm_o4.1, nm_o4.2.1, nm_d0⟩, nm_o4.2.2⟩
theorem nm_f42 : (nm_mf[42]? = some (1, 1, 6)) ∧ (((px_nm nm_m42).cls ≠ "java/lang/invoke/MethodHandle" ∧ (px_nm nm_m42).cls ≠ "java/lang/invoke/VarHandle" ∧ (parseMethodDescriptor (px_nm nm_m42).desc).map (fun d => d.parameters.length) = some 1) ∧ plainName (px_nm nm_m42).cls = true) := ⟨rfl, ⟨nm_o4.1, nm_o4.2.1, nm_d4⟩, nm_o4.2.2⟩
theorem nm_f43 : (nm_mf[43]? = some (1, 3, 6)) ∧ (((px_nm nm_m43).cls ≠ "java/lang/invoke/MethodHandle" ∧ (px_nm nm_m43).cls ≠ "java/lang/invoke/VarHandle" ∧ (parseMethodDescriptor (px_nm nm_m43).desc).map (fun d => d.parameters.length) = some 3) ∧ plainName (px_nm nm_m43).cls = true) := ⟨rfl, ⟨nm_o4.1, nm_o4.2.1, nm_d6⟩, nm_o4.2.2⟩
theorem nm_f44 : (nm_mf[44]? = some (1, 0, 6)) ∧ (((px_nm nm_m44).cls ≠ "java/lang/invoke/MethodHandle" ∧ (px_nm nm_m44).cls ≠ "java/lang/invoke/VarHandle" ∧ (parseMethodDescriptor (px_nm nm_m44).desc).map (fun d => d.parameters.length) = some 0) ∧ plainName (px_nm nm_m44).cls = true) := ⟨rfl, ⟨nm_o4.1, nm_o4.2.1, nm_d19⟩, nm_o4.2.2⟩
theorem nm_f45 : (nm_mf[45]? = some (1, 0, 6)) ∧ (((px_nm nm_m45).cls ≠ "java/lang/invoke/MethodHandle" ∧ (px_nm nm_m45).cls ≠ "java/lang/invoke/VarHandle" ∧ (parseMethodDescriptor (px_nm nm_m45).desc).map (fun d => d.parameters.length) = some 0) ∧ plainName (px_nm nm_m45).cls = true) := ⟨rfl, ⟨nm_o4.1, nm_o4.2.1, nm_d0⟩, nm_o4.2.2⟩
theorem nm_f46 : (nm_mf[46]? = some (1, 1, 6)) ∧ (((px_nm nm_m46).cls ≠ "java/lang/invoke/MethodHandle" ∧ (px_nm nm_m46).cls ≠ "java/lang/invoke/VarHandle" ∧ (parseMethodDescriptor (px_nm nm_m46).desc).map (fun d => d.parameters.length) = some 1) ∧ plainName (px_nm nm_m46).cls = true) := ⟨rfl, ⟨nm_o4.1, nm_o4.2.1, nm_d12⟩, nm_o4.2.2⟩
theorem nm_f47 : (nm_mf[47]? = some (1, 1, 6)) ∧ (((px_nm nm_m47).cls ≠ "java/lang/invoke/MethodHandle" ∧ (px_nm nm_m47).cls ≠ "java/lang/invoke/VarHandle" ∧ (parseMethodDescriptor (px_nm nm_m47).desc).map (fun d => d.parameters.length) = some 1) ∧ plainName (px_nm nm_m47).cls = true) := ⟨rfl, ⟨nm_o4.1, nm_o4.2.1, nm_d12⟩, nm_o4.2.2⟩
theorem nm_f48 : (nm_mf[48]? = some (2, 0, 7)) ∧ (((px_nm nm_m48).cls ≠ "java/lang/invoke/MethodHandle" ∧ (px_nm nm_m48).cls ≠ "java/lang/invoke/VarHandle" ∧ (parseMethodDescriptor (px_nm nm_m48).desc).map (fun d => d.parameters.length) = some 0) ∧ plainName (px_nm nm_m48).cls = true) := ⟨rfl, ⟨nm_o8.1, nm_o8.2.1, nm_d0⟩, nm_o8.2.2⟩
theorem nm_f49 : (nm_mf[49]? = some (1, 1, 7)) ∧ (((px_nm nm_m49).cls ≠ "java/lang/invoke/MethodHandle" ∧ (px_nm nm_m49).cls ≠ "java/lang/invoke/VarHandle" ∧ (parseMethodDescriptor (px_nm nm_m49).desc).map (fun d => d.parameters.length) = some 1) ∧ plainName (px_nm nm_m49).cls = true) := ⟨rfl, ⟨nm_o8.1, nm_o8.2.1, nm_d1⟩, nm_o8.2.2⟩
theorem nm_f50 : (nm_mf[50]? = some (1, 1, 7)) ∧ (((px_nm nm_m50).cls ≠ "java/lang/invoke/MethodHandle" ∧ (px_nm nm_m50).cls ≠ "java/lang/invoke/VarHandle" ∧ (parseMethodDescriptor (px_nm nm_m50).desc).map (fun d => d.parameters.length) = some 1) ∧ plainName (px_nm nm_m50).cls = true) := ⟨rfl, ⟨nm_o8.1, nm_o8.2.1, nm_d7⟩, nm_o8.2.2⟩
theorem nm_f51 : (nm_mf[51]? = some (1, 2, 7)) ∧ (((px_nm nm_m51).cls ≠ "java/lang/invoke/MethodHandle" ∧ (px_nm nm_m51).cls ≠ "java/lang/invoke/VarHandle" ∧ (parseMethodDescriptor (px_nm nm_m51).desc).map (fun d => d.parameters.length) = some 2) ∧ plainName (px_nm nm_m51).cls = true) := ⟨rfl, ⟨nm_o8.1, nm_o8.2.1, nm_d9⟩, nm_o8.2.2⟩
theorem nm_f52 : (nm_mf[52]? = some (1, 1, 7)) ∧ (((px_nm nm_m52).cls ≠ "java/lang/invoke/MethodHandle" ∧ (px_nm nm_m52).cls ≠ "java/lang/invoke/VarHandle" ∧ (parseMethodDescriptor (px_nm nm_m52).desc).map (fun d => d.parameters.length) = some 1) ∧ plainName (px_nm nm_m52).cls = true) := ⟨rfl, ⟨nm_o8.1, nm_o8.2.1, nm_d8⟩, nm_o8.2.2⟩
theorem nm_f53 : (nm_mf[53]? = some (1, 2, 7)) ∧ (((px_nm nm_m53).cls ≠ "java/lang/invoke/MethodHandle" ∧ (px_nm nm_m53).cls ≠ "java/lang/invoke/VarHandle" ∧ (parseMethodDescriptor (px_nm nm_m53).desc).map (fun d => d.parameters.length) = some 2) ∧ plainName (px_nm nm_m53).cls = true) := ⟨rfl, ⟨nm_o8.1, nm_o8.2.1, nm_d9⟩, nm_o8.2.2⟩
theorem nm_f54 : (nm_mf[54]? = some (1, 1, 7)) ∧ (((px_nm nm_m54).cls ≠ "java/lang/invoke/MethodHandle" ∧ (px_nm nm_m54).cls ≠ "java/lang/invoke/VarHandle" ∧ (parseMethodDescriptor (px_nm nm_m54).desc).map (fun d => d.parameters.length) = some 1) ∧ plainName (px_nm nm_m54).cls = true) := ⟨rfl, ⟨nm_o8.1, nm_o8.2.1, nm_d13⟩, nm_o8.2.2⟩
theorem nm_f55 : (nm_mf[55]? = some (1, 0, 7)) ∧ (((px_nm nm_m55).cls ≠ "java/lang/invoke/MethodHandle" ∧ (px_nm nm_m55).cls ≠ "java/lang/invoke/VarHandle" ∧ (parseMethodDescriptor (px_nm nm_m55).desc).map (fun d => d.parameters.length) = some 0) ∧ plainName (px_nm nm_m55).cls = true) := ⟨rfl, ⟨nm_o8.1, nm_o8.2.1, nm_d20⟩, nm_o8.2.2⟩
theorem nm_f56 : (nm_mf[56]? = some (1, 1, 7)) ∧ (((px_nm nm_m56).cls ≠ "java/lang/invoke/MethodHandle" ∧ (px_nm nm_m56).cls ≠ "java/lang/invoke/VarHandle" ∧ (parseMethodDescriptor (px_nm nm_m56).desc).map (fun d => d.parameters.length) = some 1) ∧ plainName (px_nm nm_m56).cls = true) := ⟨rfl, ⟨nm_o8.1, nm_o8.2.1, nm_d21⟩, nm_o8.2.2⟩
theorem nm_f57 : (nm_mf[57]? = some (0, 2, 8)) ∧ (((px_nm nm_m57).cls ≠ "java/lang/invoke/MethodHandle" ∧ (px_nm nm_m57).cls ≠ "java/lang/invoke/VarHandle" ∧ (parseMethodDescriptor (px_nm nm_m57).desc).map (fun d => d.parameters.length) = some 2) ∧ plainName (px_nm nm_m57).cls = true) := ⟨rfl, ⟨nm_o9.1, nm_o9.2.1, nm_d5⟩, nm_o9.2.2⟩
theorem nm_f58 : (nm_mf[58]? = some (1, 2, 7)) ∧ (((px_nm nm_m58).cls ≠ "java/lang/invoke/MethodHandle" ∧ (px_nm nm_m58).cls ≠ "java/lang/invoke/VarHandle" ∧ (parseMethodDescriptor (px_nm nm_m58).desc).map (fun d => d.parameters.length) = some 2) ∧ plainName (px_nm nm_m58).cls = true) := ⟨rfl, ⟨nm_o8.1, nm_o8.2.1, nm_d22⟩, nm_o8.2.2⟩
theorem nm_f59 : (nm_mf[59]? = some (1, 1, 7)) ∧ (((px_nm nm_m59).cls ≠ "java/lang/invoke/MethodHandle" ∧ (px_nm nm_m59).cls ≠ "java/lang/invoke/VarHandle" ∧ (parseMethodDescriptor (px_nm nm_m59).desc).map (fun d => d.parameters.length) = some 1) ∧ plainName (px_nm nm_m59).cls = true) := ⟨rfl, ⟨nm_o8.1, nm_o8.2.1, nm_d21⟩, nm_o8.2.2⟩
theorem nm_f60 : (nm_mf[60]? = some (1, 1, 7)) ∧ (((px_nm nm_m60).cls ≠ "java/lang/invoke/MethodHandle" ∧ (px_nm nm_m60).cls ≠ "java/lang/invoke/VarHandle" ∧ (parseMethodDescriptor (px_nm nm_m60).desc).map (fun d => d.parameters.length) = some 1) ∧ plainName (px_nm nm_m60).cls = true) := ⟨rfl, ⟨nm_o8.1, nm_o8.2.1, nm_d21⟩, nm_o8.2.2⟩
theorem nm_f61 : (nm_mf[61]? = some (1, 1, 7)) ∧ (((px_nm nm_m61).cls ≠ "java/lang/invoke/MethodHandle" ∧ (px_nm nm_m61).cls ≠ "java/lang/invoke/VarHandle" ∧ (parseMethodDescriptor (px_nm nm_m61).desc).map (fun d => d.parameters.length) = some 1) ∧ plainName (px_nm nm_m61).cls = true) := ⟨rfl, ⟨nm_o8.1, nm_o8.2.1, nm_d12⟩, nm_o8.2.2⟩
theorem nm_f62 : (nm_mf[62]? = some (1, 0, 7)) ∧ (((px_nm nm_m62).cls ≠ "java/lang/invoke/MethodHandle" ∧ (px_nm nm_m62).cls ≠ "java/lang/invoke/VarHandle" ∧ (parseMethodDescriptor (px_nm nm_m62).desc).map (fun d => d.parameters.length) = some 0) ∧ plainName (px_nm nm_m62).cls = true) := ⟨rfl, ⟨nm_o8.1, nm_o8.2.1, nm_d19⟩, nm_o8.2.2⟩
theorem nm_f63 : (nm_mf[63]? = some (1, 0, 7)) ∧ (((px_nm nm_m63).cls ≠ "java/lang/invoke/MethodHandle" ∧ (px_nm nm_m63).cls ≠ "java/lang/invoke/VarHandle" ∧ (parseMethodDescriptor (px_nm nm_m63).desc).map (fun d => d.parameters.length) = some 0) ∧ plainName (px_nm nm_m63).cls = true) := ⟨rfl, ⟨nm_o8.1, nm_o8.2.1, nm_d19⟩, nm_o8.2.2⟩
theorem nm_f64 : (nm_mf[64]? = some (1, 1, 7)) ∧ (((px_nm nm_m64).cls ≠ "java/lang/invoke/MethodHandle" ∧ (px_nm nm_m64).cls ≠ "java/lang/invoke/VarHandle" ∧ (parseMethodDescriptor (px_nm nm_m64).desc).map (fun d => d.parameters.length) = some 1) ∧ plainName (px_nm nm_m64).cls = true) := ⟨rfl, ⟨nm_o8.1, nm_o8.2.1, nm_d21⟩, nm_o8.2.2⟩
theorem nm_f65 : (nm_mf[65]? = some (2, 0, 8)) ∧ (((px_nm nm_m65).cls ≠ "java/lang/invoke/MethodHandle" ∧ (px_nm nm_m65).cls ≠ "java/lang/invoke/VarHandle" ∧ (parseMethodDescriptor (px_nm nm_m65).desc).map (fun d => d.parameters.length) = some 0) ∧ plainName (px_nm nm_m65).cls = true) := ⟨rfl, ⟨nm_o9.1, nm_o9.2.1, nm_d0⟩, nm_o9.2.2⟩
theorem nm_f66 : (nm_mf[66]? = some (1, 1, 8)) ∧ (((px_nm nm_m66).cls ≠ "java/lang/invoke/MethodHandle" ∧ (px_nm nm_m66).cls ≠ "java/lang/invoke/VarHandle" ∧ (parseMethodDescriptor (px_nm nm_m66).desc).map (fun d => d.parameters.length) = some 1) ∧ plainName (px_nm nm_m66).cls = true) := ⟨rfl, ⟨nm_o9.1, nm_o9.2.1, nm_d4⟩, nm_o9.2.2⟩
theorem nm_f67 : (nm_mf[67]? = some (0, 1, 8)) ∧ (((px_nm nm_m67).cls ≠ "java/lang/invoke/MethodHandle" ∧ (px_nm nm_m67).cls ≠ "java/lang/invoke/VarHandle" ∧ (parseMethodDescriptor (px_nm nm_m67).desc).map (fun d => d.parameters.length) = some 1) ∧ plainName (px_nm nm_m67).cls = true) := ⟨rfl, ⟨nm_o9.1, nm_o9.2.1, nm_d12⟩, nm_o9.2.2⟩
theorem nm_f68 : (nm_mf[68]? = some (1, 2, 8)) ∧ (((px_nm nm_m68).cls ≠ "java/lang/invoke/MethodHandle" ∧ (px_nm nm_m68).cls ≠ "java/lang/invoke/VarHandle" ∧ (parseMethodDescriptor (px_nm nm_m68).desc).map (fun d => d.parameters.length) = some 2) ∧ plainName (px_nm nm_m68).cls = true) := ⟨rfl, ⟨nm_o9.1, nm_o9.2.1, nm_d5⟩, nm_o9.2.2⟩
theorem nm_f69 : (nm_mf[69]? = some (1, 3, 8)) ∧ (((px_nm nm_m69).cls ≠ "java/lang/invoke/MethodHandle" ∧ (px_nm nm_m69).cls ≠ "java/lang/invoke/VarHandle" ∧ (parseMethodDescriptor (px_nm nm_m69).desc).map (fun d => d.parameters.length) = some 3) ∧ plainName (px_nm nm_m69).cls = true) := ⟨rfl, ⟨nm_o9.1, nm_o9.2.1, nm_d23⟩, nm_o9.2.2⟩
theorem nm_f70 : (nm_mf[70]? = some (1, 2, 8)) ∧ (((px_nm nm_m70).cls ≠ "java/lang/invoke/MethodHandle" ∧ (px_nm nm_m70).cls ≠ "java/lang/invoke/VarHandle" ∧ (parseMethodDescriptor (px_nm nm_m70).desc).map (fun d => d.parameters.length) = some 2) ∧ plainName (px_nm nm_m70).cls = true) := ⟨rfl, ⟨nm_o9.1, nm_o9.2.1, nm_d5⟩, nm_o9.2.2⟩
theorem nm_f71 : (nm_mf[71]? = some (0, 2, 8)) ∧ (((px_nm nm_m71).cls ≠ "java/lang/invoke/MethodHandle" ∧ (px_nm nm_m71).cls ≠ "java/lang/invoke/VarHandle" ∧ (parseMethodDescriptor (px_nm nm_m71).desc).map (fun d => d.parameters.length) = some 2) ∧ plainName (px_nm nm_m71).cls = true) := ⟨rfl, ⟨nm_o9.1, nm_o9.2.1, nm_d5⟩, nm_o9.2.2⟩
theorem nm_f72 : (nm_mf[72]? = some (1, 4, 8)) ∧ (((px_nm nm_m72).cls ≠ "java/lang/invoke/MethodHandle" ∧ (px_nm nm_m72).cls ≠ "java/lang/invoke/VarHandle" ∧ (parseMethodDescriptor (px_nm nm_m72).desc).map (fun d => d.parameters.length) = some 4) ∧ plainName (px_nm nm_m72).cls = true) := ⟨rfl, ⟨nm_o9.1, nm_o9.2.1, nm_d24⟩, nm_o9.2.2⟩
theorem nm_f73 : (nm_mf[73]? = some (0, 1, 8)) ∧ (((px_nm nm_m73).cls ≠ "java/lang/invoke/MethodHandle" ∧ (px_nm nm_m73).cls ≠ "java/lang/invoke/VarHandle" ∧ (parseMethodDescriptor (px_nm nm_m73).desc).map (fun d => d.parameters.length) = some 1) ∧ plainName (px_nm nm_m73).cls = true) := ⟨rfl, ⟨nm_o9.1, nm_o9.2.1, nm_d12⟩, nm_o9.2.2⟩
theorem nm_f74 : (nm_mf[74]? = some (1, 2, 8)) ∧ (((px_nm nm_m74).cls ≠ "java/lang/invoke/MethodHandle" ∧ (px_nm nm_m74).cls ≠ "java/lang/invoke/VarHandle" ∧ (parseMethodDescriptor (px_nm nm_m74).desc).map (fun d => d.parameters.length) = some 2) ∧ plainName (px_nm nm_m74).cls = true) := ⟨rfl, ⟨nm_o9.1, nm_o9.2.1, nm_d5⟩, nm_o9.2.2⟩
theorem nm_f75 : (nm_mf[75]? = some (1, 2, 8)) ∧ (((px_nm nm_m75).cls ≠ "java/lang/invoke/MethodHandle" ∧ (px_nm nm_m75).cls ≠ "java/lang/invoke/VarHandle" ∧ (parseMethodDescriptor (px_nm nm_m75).desc).map (fun d => d.parameters.length) = some 2) ∧ plainName (px_nm nm_m75).cls = true) := ⟨rfl, ⟨nm_o9.1, nm_o9.2.1, nm_d25⟩, nm_o9.2.2⟩
theorem nm_f76 : (nm_mf[76]? = some (1, 3, 8)) ∧ (((px_nm nm_m76).cls ≠ "java/lang/invoke/MethodHandle" ∧ (px_nm nm_m76).cls ≠ "java/lang/invoke/VarHandle" ∧ (parseMethodDescriptor (px_nm nm_m76).desc).map (fun d => d.parameters.length) = some 3) ∧ plainName (px_nm nm_m76).cls = true) := ⟨rfl, ⟨nm_o9.1, nm_o9.2.1, nm_d6⟩, nm_o9.2.2⟩
theorem nm_f77 : (nm_mf[77]? = some (1, 1, 8)) ∧ (((px_nm nm_m77).cls ≠ "java/lang/invoke/MethodHandle" ∧ (px_nm nm_m77).cls ≠ "java/lang/invoke/VarHandle" ∧ (parseMethodDescriptor (px_nm nm_m77).desc).map (fun d => d.parameters.length) = some 1) ∧ plainName (px_nm nm_m77).cls = true) := ⟨rfl, ⟨nm_o9.1, nm_o9.2.1, nm_d4⟩, nm_o9.2.2⟩
theorem nm_f78 : (nm_mf[78]? = some (1, 1, 8)) ∧ (((px_nm nm_m78).cls ≠ "java/lang/invoke/MethodHandle" ∧ (px_nm nm_m78).cls ≠ "java/lang/invoke/VarHandle" ∧ (parseMethodDescriptor (px_nm nm_m78).desc).map (fun d => d.parameters.length) = some 1) ∧ plainName (px_nm nm_m78).cls = true) := ⟨rfl, ⟨nm_o9.1, nm_o9.2.1, nm_d12⟩, nm_o9.2.2⟩
theorem nm_f79 : (nm_mf[79]? = some (1, 1, 8)) ∧ (((px_nm nm_m79).cls ≠ "java/lang/invoke/MethodHandle" ∧ (px_nm nm_m79).cls ≠ "java/lang/invoke/VarHandle" ∧ (parseMethodDescriptor (px_nm nm_m79).desc).map (fun d => d.parameters.length) = some 1) ∧ plainName (px_nm nm_m79).cls = true) := ⟨rfl, ⟨nm_o9.1, nm_o9.2.1, nm_d26⟩, nm_o9.2.2⟩
theorem nm_f80 : (nm_mf[80]? = some (1, 0, 8)) ∧ (((px_nm nm_m80).cls ≠ "java/lang/invoke/MethodHandle" ∧ (px_nm nm_m80).cls ≠ "java/lang/invoke/VarHandle" ∧ (parseMethodDescriptor (px_nm nm_m80).desc).map (fun d => d.parameters.length) = some 0) ∧ plainName (px_nm nm_m80).cls = true) := ⟨rfl, ⟨nm_o9.1, nm_o9.2.1, nm_d19⟩, nm_o9.2.2⟩
theorem nm_f81 : (nm_mf[81]? = some (1, 1, 8)) ∧ (((px_nm nm_m81).cls ≠ "java/lang/invoke/MethodHandle" ∧ (px_nm nm_m81).cls ≠ "java/lang/invoke/VarHandle" ∧ (parseMethodDescriptor (px_nm nm_m81).desc).map (fun d => d.parameters.length) = some 1) ∧ plainName (px_nm nm_m81).cls = true) := ⟨rfl, ⟨nm_o9.1, nm_o9.2.1, nm_d4⟩, nm_o9.2.2⟩
theorem nm_f82 : (nm_mf[82]? = some (1, 0, 8)) ∧ (((px_nm nm_m82).cls ≠ "java/lang/invoke/MethodHandle" ∧ (px_nm nm_m82).cls ≠ "java/lang/invoke/VarHandle" ∧ (parseMethodDescriptor (px_nm nm_m82).desc).map (fun d => d.parameters.length) = some 0) ∧ plainName (px_nm nm_m82).cls = true) := ⟨rfl, ⟨nm_o9.1, nm_o9.2.1, nm_d27⟩, nm_o9.2.2⟩
theorem nm_f83 : (nm_mf[83]? = some (1, 0, 8)) ∧ (((px_nm nm_m83).cls ≠ "java/lang/invoke/MethodHandle" ∧ (px_nm nm_m83).cls ≠ "java/lang/invoke/VarHandle" ∧ (parseMethodDescriptor (px_nm nm_m83).desc).map (fun d => d.parameters.length) = some 0) ∧ plainName (px_nm nm_m83).cls = true) := ⟨rfl, ⟨nm_o9.1, nm_o9.2.1, nm_d0⟩, nm_o9.2.2⟩
theorem nm_f84 : (nm_mf[84]? = some (1, 1, 8)) ∧ (((px_nm nm_m84).cls ≠ "java/lang/invoke/MethodHandle" ∧ (px_nm nm_m84).cls ≠ "java/lang/invoke/VarHandle" ∧ (parseMethodDescriptor (px_nm nm_m84).desc).map (fun d => d.parameters.length) = some 1) ∧ plainName (px_nm nm_m84).cls = true) := ⟨rfl, ⟨nm_o9.1, nm_o9.2.1, nm_d4⟩, nm_o9.2.2⟩
theorem nm_f85 : (nm_mf[85]? = some (1, 1, 8)) ∧ (((px_nm nm_m85).cls ≠ "java/lang/invoke/MethodHandle" ∧ (px_nm nm_m85).cls ≠ "java/lang/invoke/VarHandle" ∧ (parseMethodDescriptor (px_nm nm_m85).desc).map (fun d => d.parameters.length) = some 1) ∧ plainName (px_nm nm_m85).cls = true) := ⟨rfl, ⟨nm_o9.1, nm_o9.2.1, nm_d4⟩, nm_o9.2.2⟩
theorem nm_f86 : (nm_mf[86]? = some (1, 0, 8)) ∧ (((px_nm nm_m86).cls ≠ "java/lang/invoke/MethodHandle" ∧ (px_nm nm_m86).cls ≠ "java/lang/invoke/VarHandle" ∧ (parseMethodDescriptor (px_nm nm_m86).desc).map (fun d => d.parameters.length) = some 0) ∧ plainName (px_nm nm_m86).cls = true) := ⟨rfl, ⟨nm_o9.1, nm_o9.2.1, nm_d19⟩, nm_o9.2.2⟩
theorem nm_f87 : (nm_mf[87]? = some (0, 2, 8)) ∧ (((px_nm nm_m87).cls ≠ "java/lang/invoke/MethodHandle" ∧ (px_nm nm_m87).cls ≠ "java/lang/invoke/VarHandle" ∧ (parseMethodDescriptor (px_nm nm_m87).desc).map (fun d => d.parameters.length) = some 2) ∧ plainName (px_nm nm_m87).cls = true) := ⟨rfl, ⟨nm_o9.1, nm_o9.2.1, nm_d17⟩, nm_o9.2.2⟩
theorem nm_f88 : (nm_mf[88]? = some (0, 2, 8)) ∧ (((px_nm nm_m88).cls ≠ "java/lang/invoke/MethodHandle" ∧ (px_nm nm_m88).cls ≠ "java/lang/invoke/VarHandle" ∧ (parseMethodDescriptor (px_nm nm_m88).desc).map (fun d => d.parameters.length) = some 2) ∧ plainName (px_nm nm_m88).cls = true) := ⟨rfl, ⟨nm_o9.1, nm_o9.2.1, nm_d28⟩, nm_o9.2.2⟩
theorem nm_f89 : (nm_mf[89]? = some (1, 2, 8)) ∧ (((px_nm nm_m89).cls ≠ "java/lang/invoke/MethodHandle" ∧ (px_nm nm_m89).cls ≠ "java/lang/invoke/VarHandle" ∧ (parseMethodDescriptor (px_nm nm_m89).desc).map (fun d => d.parameters.length) = some 2) ∧ plainName (px_nm nm_m89).cls = true) := ⟨rfl, ⟨nm_o9.1, nm_o9.2.1, nm_d17⟩, nm_o9.2.2⟩
theorem nm_f90 : (nm_mf[90]? = some (1, 2, 8)) ∧ (((px_nm nm_m90).cls ≠ "java/lang/invoke/MethodHandle" ∧ (px_nm nm_m90).cls ≠ "java/lang/invoke/VarHandle" ∧ (parseMethodDescriptor (px_nm nm_m90).desc).map (fun d => d.parameters.length) = some 2) ∧ plainName (px_nm nm_m90).cls = true) := ⟨rfl, ⟨nm_o9.1, nm_o9.2.1, nm_d17⟩, nm_o9.2.2⟩
theorem nm_f91 : (nm_mf[91]? = some (1, 2, 8)) ∧ (((px_nm nm_m91).cls ≠ "java/lang/invoke/MethodHandle" ∧ (px_nm nm_m91).cls ≠ "java/lang/invoke/VarHandle" ∧ (parseMethodDescriptor (px_nm nm_m91).desc).map (fun d => d.parameters.length) = some 2) ∧ plainName (px_nm nm_m91).cls = true) := ⟨rfl, ⟨nm_o9.1, nm_o9.2.1, nm_d28⟩, nm_o9.2.2⟩
theorem nm_f92 : (nm_mf[92]? = some (1, 0, 8)) ∧ (((px_nm nm_m92).cls ≠ "java/lang/invoke/MethodHandle" ∧ (px_nm nm_m92).cls ≠ "java/lang/invoke/VarHandle" ∧ (parseMethodDescriptor (px_nm nm_m92).desc).map (fun d => d.parameters.length) = some 0) ∧ plainName (px_nm nm_m92).cls = true) := ⟨rfl, ⟨nm_o9.1, nm_o9.2.1, nm_d19⟩, nm_o9.2.2⟩
theorem nm_f93 : (nm_mf[93]? = some (1, 2, 8)) ∧ (((px_nm nm_m93).cls ≠ "java/lang/invoke/MethodHandle" ∧ (px_nm nm_m93).cls ≠ "java/lang/invoke/VarHandle" ∧ (parseMethodDescriptor (px_nm nm_m93).desc).map (fun d => d.parameters.length) = some 2) ∧ plainName (px_nm nm_m93).cls = true) := ⟨rfl, ⟨nm_o9.1, nm_o9.2.1, nm_d5⟩, nm_o9.2.2⟩
theorem nm_f94 : (nm_mf[94]? = some (1, 1, 8)) ∧ (((px_nm nm_m94).cls ≠ "java/lang/invoke/MethodHandle" ∧ (px_nm nm_m94).cls ≠ "java/lang/invoke/VarHandle" ∧ (parseMethodDescriptor (px_nm nm_m94).desc).map (fun d => d.parameters.length) = some 1) ∧ plainName (px_nm nm_m94).cls = true) := ⟨rfl, ⟨nm_o9.1, nm_o9.2.1, nm_d4⟩, nm_o9.2.2⟩
theorem nm_f95 : (nm_mf[95]? = some (1, 1, 8)) ∧ (((px_nm nm_m95).cls ≠ "java/lang/invoke/MethodHandle" ∧ (px_nm nm_m95).cls ≠ "java/lang/invoke/VarHandle" ∧ (parseMethodDescriptor (px_nm nm_m95).desc).map (fun d => d.parameters.length) = some 1) ∧ plainName (px_nm nm_m95).cls = true) := ⟨rfl, ⟨nm_o9.1, nm_o9.2.1, nm_d12⟩, nm_o9.2.2⟩
theorem nm_f96 : (nm_mf[96]? = some (1, 3, 8)) ∧ (((px_nm nm_m96).cls ≠ "java/lang/invoke/MethodHandle" ∧ (px_nm nm_m96).cls ≠ "java/lang/invoke/VarHandle" ∧ (parseMethodDescriptor (px_nm nm_m96).desc).map (fun d => d.parameters.length) = some 3) ∧ plainName (px_nm nm_m96).cls = true) := ⟨rfl, ⟨nm_o9.1, nm_o9.2.1, nm_d29⟩, nm_o9.2.2⟩
theorem nm_f97 : (nm_mf[97]? = some (1, 2, 8)) ∧ (((px_nm nm_m97).cls ≠ "java/lang/invoke/MethodHandle" ∧ (px_nm nm_m97).cls ≠ "java/lang/invoke/VarHandle" ∧ (parseMethodDescriptor (px_nm nm_m97).desc).map (fun d => d.parameters.length) = some 2) ∧ plainName (px_nm nm_m97).cls = true) := ⟨rfl, ⟨nm_o9.1, nm_o9.2.1, nm_d5⟩, nm_o9.2.2⟩
theorem nm_f98 : (nm_mf[98]? = some (1, 1, 8)) ∧ (((px_nm nm_m98).cls ≠ "java/lang/invoke/MethodHandle" ∧ (px_nm nm_m98).cls ≠ "java/lang/invoke/VarHandle" ∧ (parseMethodDescriptor (px_nm nm_m98).desc).map (fun d => d.parameters.length) = some 1) ∧ plainName (px_nm nm_m98).cls = true) := ⟨rfl, ⟨nm_o9.1, nm_o9.2.1, nm_d4⟩, nm_o9.2.2⟩
theorem nm_f99 : (nm_mf[99]? = some (1, 1, 8)) ∧ (((px_nm nm_m99).cls ≠ "java/lang/invoke/MethodHandle" ∧ (px_nm nm_m99).cls ≠ "java/lang/invoke/VarHandle" ∧ (parseMethodDescriptor (px_nm nm_m99).desc).map (fun d => d.parameters.length) = some 1) ∧ plainName (px_nm nm_m99).cls = true) := ⟨rfl, ⟨nm_o9.1, nm_o9.2.1, nm_d4⟩, nm_o9.2.2⟩
theorem nm_f100 : (nm_mf[100]? = some (1, 1, 8)) ∧ (((px_nm nm_m100).cls ≠ "java/lang/invoke/MethodHandle" ∧ (px_nm nm_m100).cls ≠ "java/lang/invoke/VarHandle" ∧ (parseMethodDescriptor (px_nm nm_m100).desc).map (fun d => d.parameters.length) = some 1) ∧ plainName (px_nm nm_m100).cls = true) := ⟨rfl, ⟨nm_o9.1, nm_o9.2.1, nm_d4⟩, nm_o9.2.2⟩
theorem nm_f101 : (nm_mf[101]? = some (1, 1, 8)) ∧ (((px_nm nm_m101).cls ≠ "java/lang/invoke/MethodHandle" ∧ (px_nm nm_m101).cls ≠ "java/lang/invoke/VarHandle" ∧ (parseMethodDescriptor (px_nm nm_m101).desc).map (fun d => d.parameters.length) = some 1) ∧ plainName (px_nm nm_m101).cls = true) := ⟨rfl, ⟨nm_o9.1, nm_o9.2.1, nm_d4⟩, nm_o9.2.2⟩
theorem nm_f102 : (nm_mf[102]? = some (1, 2, 8)) ∧ (((px_nm nm_m102).cls ≠ "java/lang/invoke/MethodHandle" ∧ (px_nm nm_m102).cls ≠ "java/lang/invoke/VarHandle" ∧ (parseMethodDescriptor (px_nm nm_m102).desc).map (fun d => d.parameters.length) = some 2) ∧ plainName (px_nm nm_m102).cls = true) := ⟨rfl, ⟨nm_o9.1, nm_o9.2.1, nm_d5⟩, nm_o9.2.2⟩
theorem nm_f103 : (nm_mf[103]? = some (1, 1, 8)) ∧ (((px_nm nm_m103).cls ≠ "java/lang/invoke/MethodHandle" ∧ (px_nm nm_m103).cls ≠ "java/lang/invoke/VarHandle" ∧ (parseMethodDescriptor (px_nm nm_m103).desc).map (fun d => d.parameters.length) = some 1) ∧ plainName (px_nm nm_m103).cls = true) := ⟨rfl, ⟨nm_o9.1, nm_o9.2.1, nm_d4⟩, nm_o9.2.2⟩
theorem nm_f104 : (nm_mf[104]? = some (1, 2, 8)) ∧ (((px_nm nm_m104).cls ≠ "java/lang/invoke/MethodHandle" ∧ (px_nm nm_m104).cls ≠ "java/lang/invoke/VarHandle" ∧ (parseMethodDescriptor (px_nm nm_m104).desc).map (fun d => d.parameters.length) = some 2) ∧ plainName (px_nm nm_m104).cls = true) := ⟨rfl, ⟨nm_o9.1, nm_o9.2.1, nm_d5⟩, nm_o9.2.2⟩
theorem nm_f105 : (nm_mf[105]? = some (1, 2, 8)) ∧ (((px_nm nm_m105).cls ≠ "java/lang/invoke/MethodHandle" ∧ (px_nm nm_m105).cls ≠ "java/lang/invoke/VarHandle" ∧ (parseMethodDescriptor (px_nm nm_m105).desc).map (fun d => d.parameters.length) = some 2) ∧ plainName (px_nm nm_m105).cls = true) := ⟨rfl, ⟨nm_o9.1, nm_o9.2.1, nm_d5⟩, nm_o9.2.2⟩
theorem nm_f106 : (nm_mf[106]? = some (1, 0, 8)) ∧ (((px_nm nm_m106).cls ≠ "java/lang/invoke/MethodHandle" ∧ (px_nm nm_m106).cls ≠ "java/lang/invoke/VarHandle" ∧ (parseMethodDescriptor (px_nm nm_m106).desc).map (fun d => d.parameters.length) = some 0) ∧ plainName (px_nm nm_m106).cls = true) := ⟨rfl, ⟨nm_o9.1, nm_o9.2.1, nm_d19⟩, nm_o9.2.2⟩
theorem nm_f107 : (nm_mf[107]? = some (1, 2, 8)) ∧ (((px_nm nm_m107).cls ≠ "java/lang/invoke/MethodHandle" ∧ (px_nm nm_m107).cls ≠ "java/lang/invoke/VarHandle" ∧ (parseMethodDescriptor (px_nm nm_m107).desc).map (fun d => d.parameters.length) = some 2) ∧ plainName (px_nm nm_m107).cls = true) := ⟨rfl, ⟨nm_o9.1, nm_o9.2.1, nm_d30⟩, nm_o9.2.2⟩
theorem nm_f108 : (nm_mf[108]? = some (0, 1, 8)) ∧ (((px_nm nm_m108).cls ≠ "java/lang/invoke/MethodHandle" ∧ (px_nm nm_m108).cls ≠ "java/lang/invoke/VarHandle" ∧ (parseMethodDescriptor (px_nm nm_m108).desc).map (fun d => d.parameters.length) = some 1) ∧ plainName (px_nm nm_m108).cls = true) := ⟨rfl, ⟨nm_o9.1, nm_o9.2.1, nm_d4⟩, nm_o9.2.2⟩
theorem nm_f109 : (nm_mf[109]? = some (1, 3, 8)) ∧ (((px_nm nm_m109).cls ≠ "java/lang/invoke/MethodHandle" ∧ (px_nm nm_m109).cls ≠ "java/lang/invoke/VarHandle" ∧ (parseMethodDescriptor (px_nm nm_m109).desc).map (fun d => d.parameters.length) = some 3) ∧ plainName (px_nm nm_m109).cls = true) := ⟨rfl, ⟨nm_o9.1, nm_o9.2.1, nm_d6⟩, nm_o9.2.2⟩
theorem nm_f110 : (nm_mf[110]? = some (1, 2, 8)) ∧ (((px_nm nm_m110).cls ≠ "java/lang/invoke/MethodHandle" ∧ (px_nm nm_m110).cls ≠ "java/lang/invoke/VarHandle" ∧ (parseMethodDescriptor (px_nm nm_m110).desc).map (fun d => d.parameters.length) = some 2) ∧ plainName (px_nm nm_m110).cls = true) := ⟨rfl, ⟨nm_o9.1, nm_o9.2.1, nm_d3⟩, nm_o9.2.2⟩
theorem nm_f111 : (nm_mf[111]? = some (1, 3, 8)) ∧ (((px_nm nm_m111).cls ≠ "java/lang/invoke/MethodHandle" ∧ (px_nm nm_m111).cls ≠ "java/lang/invoke/VarHandle" ∧ (parseMethodDescriptor (px_nm nm_m111).desc).map (fun d => d.parameters.length) = some 3) ∧ plainName (px_nm nm_m111).cls = true) := ⟨rfl, ⟨nm_o9.1, nm_o9.2.1, nm_d23⟩, nm_o9.2.2⟩
theorem nm_f112 : (nm_mf[112]? = some (1, 5, 8)) ∧ (((px_nm nm_m112).cls ≠ "java/lang/invoke/MethodHandle" ∧ (px_nm nm_m112).cls ≠ "java/lang/invoke/VarHandle" ∧ (parseMethodDescriptor (px_nm nm_m112).desc).map (fun d => d.parameters.length) = some 5) ∧ plainName (px_nm nm_m112).cls = true) := ⟨rfl, ⟨nm_o9.1, nm_o9.2.1, nm_d31⟩, nm_o9.2.2⟩
theorem nm_f113 : (nm_mf[113]? = some (1, 4, 8)) ∧ (((px_nm nm_m113).cls ≠ "java/lang/invoke/MethodHandle" ∧ (px_nm nm_m113).cls ≠ "java/lang/invoke/VarHandle" ∧ (parseMethodDescriptor (px_nm nm_m113).desc).map (fun d => d.parameters.length) = some 4) ∧ plainName (px_nm nm_m113).cls = true) := ⟨rfl, ⟨nm_o9.1, nm_o9.2.1, nm_d24⟩, nm_o9.2.2⟩
theorem nm_f114 : (nm_mf[114]? = some (1, 4, 8)) ∧ (((px_nm nm_m114).cls ≠ "java/lang/invoke/MethodHandle" ∧ (px_nm nm_m114).cls ≠ "java/lang/invoke/VarHandle" ∧ (parseMethodDescriptor (px_nm nm_m114).desc).map (fun d => d.parameters.length) = some 4) ∧ plainName (px_nm nm_m114).cls = true) := ⟨rfl, ⟨nm_o9.1, nm_o9.2.1, nm_d24⟩, nm_o9.2.2⟩
theorem nm_f115 : (nm_mf[115]? = some (1, 2, 8)) ∧ (((px_nm nm_m115).cls ≠ "java/lang/invoke/MethodHandle" ∧ (px_nm nm_m115).cls ≠ "java/lang/invoke/VarHandle" ∧ (parseMethodDescriptor (px_nm nm_m115).desc).map (fun d => d.parameters.length) = some 2) ∧ plainName (px_nm nm_m115).cls = true) := ⟨rfl, ⟨nm_o9.1, nm_o9.2.1, nm_d5⟩, nm_o9.2.2⟩
theorem nm_f116 : (nm_mf[116]? = some (1, 2, 8)) ∧ (((px_nm nm_m116).cls ≠ "java/lang/invoke/MethodHandle" ∧ (px_nm nm_m116).cls ≠ "java/lang/invoke/VarHandle" ∧ (parseMethodDescriptor (px_nm nm_m116).desc).map (fun d => d.parameters.length) = some 2) ∧ plainName (px_nm nm_m116).cls = true) := ⟨rfl, ⟨nm_o9.1, nm_o9.2.1, nm_d5⟩, nm_o9.2.2⟩
theorem nm_f117 : (nm_mf[117]? = some (1, 1, 8)) ∧ (((px_nm nm_m117).cls ≠ "java/lang/invoke/MethodHandle" ∧ (px_nm nm_m117).cls ≠ "java/lang/invoke/VarHandle" ∧ (parseMethodDescriptor (px_nm nm_m117).desc).map (fun d => d.parameters.length) = some 1) ∧ plainName (px_nm nm_m117).cls = true) := ⟨rfl, ⟨nm_o9.1, nm_o9.2.1, nm_d4⟩, nm_o9.2.2⟩
theorem nm_f118 : (nm_mf[118]? = some (1, 0, 8)) ∧ (((px_nm nm_m118).cls ≠ "java/lang/invoke/MethodHandle" ∧ (px_nm nm_m118).cls ≠ "java/lang/invoke/VarHandle" ∧ (parseMethodDescriptor (px_nm nm_m118).desc).map (fun d => d.parameters.length) = some 0) ∧ plainName (px_nm nm_m118).cls = true) := ⟨rfl, ⟨nm_o9.1, nm_o9.2.1, nm_d19⟩, nm_o9.2.2⟩
theorem nm_f119 : (nm_mf[119]? = some (1, 0, 8)) ∧ (((px_nm nm_m119).cls ≠ "java/lang/invoke/MethodHandle" ∧ (px_nm nm_m119).cls ≠ "java/lang/invoke/VarHandle" ∧ (parseMethodDescriptor (px_nm nm_m119).desc).map (fun d => d.parameters.length) = some 0) ∧ plainName (px_nm nm_m119).cls = true) := ⟨rfl, ⟨nm_o9.1, nm_o9.2.1, nm_d27⟩, nm_o9.2.2⟩
theorem nm_f120 : (nm_mf[120]? = some (1, 2, 8)) ∧ (((px_nm nm_m120).cls ≠ "java/lang/invoke/MethodHandle" ∧ (px_nm nm_m120).cls ≠ "java/lang/invoke/VarHandle" ∧ (parseMethodDescriptor (px_nm nm_m120).desc).map (fun d => d.parameters.length) = some 2) ∧ plainName (px_nm nm_m120).cls = true) := ⟨rfl, ⟨nm_o9.1, nm_o9.2.1, nm_d5⟩, nm_o9.2.2⟩
theorem nm_f121 : (nm_mf[121]? = some (1, 0, 8)) ∧ (((px_nm nm_m121).cls ≠ "java/lang/invoke/MethodHandle" ∧ (px_nm nm_m121).cls ≠ "java/lang/invoke/VarHandle" ∧ (parseMethodDescriptor (px_nm nm_m121).desc).map (fun d => d.parameters.length) = some 0) ∧ plainName (px_nm nm_m121).cls = true) := ⟨rfl, ⟨nm_o9.1, nm_o9.2.1, nm_d19⟩, nm_o9.2.2⟩
theorem nm_f122 : (nm_mf[122]? = some (1, 1, 8)) ∧ (((px_nm nm_m122).cls ≠ "java/lang/invoke/MethodHandle" ∧ (px_nm nm_m122).cls ≠ "java/lang/invoke/VarHandle" ∧ (parseMethodDescriptor (px_nm nm_m122).desc).map (fun d => d.parameters.length) = some 1) ∧ plainName (px_nm nm_m122).cls = true) := ⟨rfl, ⟨nm_o9.1, nm_o9.2.1, nm_d4⟩, nm_o9.2.2⟩
theorem nm_f123 : (nm_mf[123]? = some (1, 1, 8)) ∧ (((px_nm nm_m123).cls ≠ "java/lang/invoke/MethodHandle" ∧ (px_nm nm_m123).cls ≠ "java/lang/invoke/VarHandle" ∧ (parseMethodDescriptor (px_nm nm_m123).desc).map (fun d => d.parameters.length) = some 1) ∧ plainName (px_nm nm_m123).cls = true) := ⟨rfl, ⟨nm_o9.1, nm_o9.2.1, nm_d12⟩, nm_o9.2.2⟩
theorem nm_f124 : (nm_mf[124]? = some (1, 1, 8)) ∧ (((px_nm nm_m124).cls ≠ "java/lang/invoke/MethodHandle" ∧ (px_nm nm_m124).cls ≠ "java/lang/invoke/VarHandle" ∧ (parseMethodDescriptor (px_nm nm_m124).desc).map (fun d => d.parameters.length) = some 1) ∧ plainName (px_nm nm_m124).cls = true) := ⟨rfl, ⟨nm_o9.1, nm_o9.2.1, nm_d12⟩, nm_o9.2.2⟩
theorem nm_f125 : (nm_mf[125]? = some (1, 1, 8)) ∧ (((px_nm nm_m125).cls ≠ "java/lang/invoke/MethodHandle" ∧ (px_nm nm_m125).cls ≠ "java/lang/invoke/VarHandle" ∧ (parseMethodDescriptor (px_nm nm_m125).desc).map (fun d => d.parameters.length) = some 1) ∧ plainName (px_nm nm_m125).cls = true) := ⟨rfl, ⟨nm_o9.1, nm_o9.2.1, nm_d4⟩, nm_o9.2.2⟩
theorem nm_f126 : (nm_mf[126]? = some (1, 1, 8)) ∧ (((px_nm nm_m126).cls ≠ "java/lang/invoke/MethodHandle" ∧ (px_nm nm_m126).cls ≠ "java/lang/invoke/VarHandle" ∧ (parseMethodDescriptor (px_nm nm_m126).desc).map (fun d => d.parameters.length) = some 1) ∧ plainName (px_nm nm_m126).cls = true) := ⟨rfl, ⟨nm_o9.1, nm_o9.2.1, nm_d21⟩, nm_o9.2.2⟩
theorem nm_f127 : (nm_mf[127]? = some (1, 0, 9)) ∧ (((px_nm nm_m127).cls ≠ "java/lang/invoke/MethodHandle" ∧ (px_nm nm_m127).cls ≠ "java/lang/invoke/VarHandle" ∧ (parseMethodDescriptor (px_nm nm_m127).desc).map (fun d => d.parameters.length) = some 0) ∧ plainName (px_nm nm_m127).cls = true) := ⟨rfl, ⟨nm_o10.1, nm_o10.2.1, nm_d19⟩, nm_o10.2.2⟩
theorem nm_f128 : (nm_mf[128]? = some (0, 3, 9)) ∧ (((px_nm nm_m128).cls ≠ "java/lang/invoke/MethodHandle" ∧ (px_nm nm_m128).cls ≠ "java/lang/invoke/VarHandle" ∧ (parseMethodDescriptor (px_nm nm_m128).desc).map (fun d => d.parameters.length) = some 3) ∧ plainName (px_nm nm_m128).cls = true) := ⟨rfl, ⟨nm_o10.1, nm_o10.2.1, nm_d32⟩, nm_o10.2.2⟩
theorem nm_f129 : (nm_mf[129]? = some (0, 2, 9)) ∧ (((px_nm nm_m129).cls ≠ "java/lang/invoke/MethodHandle" ∧ (px_nm nm_m129).cls ≠ "java/lang/invoke/VarHandle" ∧ (parseMethodDescriptor (px_nm nm_m129).desc).map (fun d => d.parameters.length) = some 2) ∧ plainName (px_nm nm_m129).cls = true) := ⟨rfl, ⟨nm_o10.1, nm_o10.2.1, nm_d30⟩, nm_o10.2.2⟩
theorem nm_f130 : (nm_mf[130]? = some (0, 1, 9)) ∧ (((px_nm nm_m130).cls ≠ "java/lang/invoke/MethodHandle" ∧ (px_nm nm_m130).cls ≠ "java/lang/invoke/VarHandle" ∧ (parseMethodDescriptor (px_nm nm_m130).desc).map (fun d => d.parameters.length) = some 1) ∧ plainName (px_nm nm_m130).cls = true) := ⟨rfl, ⟨nm_o10.1, nm_o10.2.1, nm_d33⟩, nm_o10.2.2⟩
theorem nm_f131 : (nm_mf[131]? = some (1, 1, 9)) ∧ (((px_nm nm_m131).cls ≠ "java/lang/invoke/MethodHandle" ∧ (px_nm nm_m131).cls ≠ "java/lang/invoke/VarHandle" ∧ (parseMethodDescriptor (px_nm nm_m131).desc).map (fun d => d.parameters.length) = some 1) ∧ plainName (px_nm nm_m131).cls = true) := ⟨rfl, ⟨nm_o10.1, nm_o10.2.1, nm_d15⟩, nm_o10.2.2⟩
theorem nm_f132 : (nm_mf[132]? = some (1, 1, 9)) ∧ (((px_nm nm_m132).cls ≠ "java/lang/invoke/MethodHandle" ∧ (px_nm nm_m132).cls ≠ "java/lang/invoke/VarHandle" ∧ (parseMethodDescriptor (px_nm nm_m132).desc).map (fun d => d.parameters.length) = some 1) ∧ plainName (px_nm nm_m132).cls = true) := ⟨rfl, ⟨nm_o10.1, nm_o10.2.1, nm_d12⟩, nm_o10.2.2⟩
theorem nm_f133 : (nm_mf[133]? = some (1, 1, 9)) ∧ (((px_nm nm_m133).cls ≠ "java/lang/invoke/MethodHandle" ∧ (px_nm nm_m133).cls ≠ "java/lang/invoke/VarHandle" ∧ (parseMethodDescriptor (px_nm nm_m133).desc).map (fun d => d.parameters.length) = some 1) ∧ plainName (px_nm nm_m133).cls = true) := ⟨rfl, ⟨nm_o10.1, nm_o10.2.1, nm_d12⟩, nm_o10.2.2⟩
theorem nm_f134 : (nm_mf[134]? = some (1, 1, 9)) ∧ (((px_nm nm_m134).cls ≠ "java/lang/invoke/MethodHandle" ∧ (px_nm nm_m134).cls ≠ "java/lang/invoke/VarHandle" ∧ (parseMethodDescriptor (px_nm nm_m134).desc).map (fun d => d.parameters.length) = some 1) ∧ plainName (px_nm nm_m134).cls = true) := ⟨rfl, ⟨nm_o10.1, nm_o10.2.1, nm_d4⟩, nm_o10.2.2⟩
theorem nm_f135 : (nm_mf[135]? = some (1, 2, 9)) ∧ (((px_nm nm_m135).cls ≠ "java/lang/invoke/MethodHandle" ∧ (px_nm nm_m135).cls ≠ "java/lang/invoke/VarHandle" ∧ (parseMethodDescriptor (px_nm nm_m135).desc).map (fun d => d.parameters.length) = some 2) ∧ plainName (px_nm nm_m135).cls = true) := ⟨rfl, ⟨nm_o10.1, nm_o10.2.1, nm_d5⟩, nm_o10.2.2⟩
theorem nm_f136 : (nm_mf[136]? = some (1, 3, 9)) ∧ (((px_nm nm_m136).cls ≠ "java/lang/invoke/MethodHandle" ∧ (px_nm nm_m136).cls ≠ "java/lang/invoke/VarHandle" ∧ (parseMethodDescriptor (px_nm nm_m136).desc).map (fun d => d.parameters.length) = some 3) ∧ plainName (px_nm nm_m136).cls = true) := ⟨rfl, ⟨nm_o10.1, nm_o10.2.1, nm_d23⟩, nm_o10.2.2⟩
theorem nm_f137 : (nm_mf[137]? = some (1, 2, 9)) ∧ (((px_nm nm_m137).cls ≠ "java/lang/invoke/MethodHandle" ∧ (px_nm nm_m137).cls ≠ "java/lang/invoke/VarHandle" ∧ (parseMethodDescriptor (px_nm nm_m137).desc).map (fun d => d.parameters.length) = some 2) ∧ plainName (px_nm nm_m137).cls = true) := ⟨rfl, ⟨nm_o10.1, nm_o10.2.1, nm_d5⟩, nm_o10.2.2⟩
theorem nm_f138 : (nm_mf[138]? = some (1, 4, 9)) ∧ (((px_nm nm_m138).cls ≠ "java/lang/invoke/MethodHandle" ∧ (px_nm nm_m138).cls ≠ "java/lang/invoke/VarHandle" ∧ (parseMethodDescriptor (px_nm nm_m138).desc).map (fun d => d.parameters.length) = some 4) ∧ plainName (px_nm nm_m138).cls = true) := ⟨rfl, ⟨nm_o10.1, nm_o10.2.1, nm_d24⟩, nm_o10.2.2⟩
theorem nm_f139 : (nm_mf[139]? = some (0, 1, 9)) ∧ (((px_nm nm_m139).cls ≠ "java/lang/invoke/MethodHandle" ∧ (px_nm nm_m139).cls ≠ "java/lang/invoke/VarHandle" ∧ (parseMethodDescriptor (px_nm nm_m139).desc).map (fun d => d.parameters.length) = some 1) ∧ plainName (px_nm nm_m139).cls = true) := ⟨rfl, ⟨nm_o10.1, nm_o10.2.1, nm_d12⟩, nm_o10.2.2⟩
theorem nm_f140 : (nm_mf[140]? = some (1, 2, 9)) ∧ (((px_nm nm_m140).cls ≠ "java/lang/invoke/MethodHandle" ∧ (px_nm nm_m140).cls ≠ "java/lang/invoke/VarHandle" ∧ (parseMethodDescriptor (px_nm nm_m140).desc).map (fun d => d.parameters.length) = some 2) ∧ plainName (px_nm nm_m140).cls = true) := ⟨rfl, ⟨nm_o10.1, nm_o10.2.1, nm_d5⟩, nm_o10.2.2⟩
theorem nm_f141 : (nm_mf[141]? = some (1, 2, 9)) ∧ (((px_nm nm_m141).cls ≠ "java/lang/invoke/MethodHandle" ∧ (px_nm nm_m141).cls ≠ "java/lang/invoke/VarHandle" ∧ (parseMethodDescriptor (px_nm nm_m141).desc).map (fun d => d.parameters.length) = some 2) ∧ plainName (px_nm nm_m141).cls = true) := ⟨rfl, ⟨nm_o10.1, nm_o10.2.1, nm_d25⟩, nm_o10.2.2⟩
theorem nm_f142 : (nm_mf[142]? = some (1, 3, 9)) ∧ (((px_nm nm_m142).cls ≠ "java/lang/invoke/MethodHandle" ∧ (px_nm nm_m142).cls ≠ "java/lang/invoke/VarHandle" ∧ (parseMethodDescriptor (px_nm nm_m142).desc).map (fun d => d.parameters.length) = some 3) ∧ plainName (px_nm nm_m142).cls = true) := ⟨rfl, ⟨nm_o10.1, nm_o10.2.1, nm_d6⟩, nm_o10.2.2⟩
theorem nm_f143 : (nm_mf[143]? = some (1, 1, 9)) ∧ (((px_nm nm_m143).cls ≠ "java/lang/invoke/MethodHandle" ∧ (px_nm nm_m143).cls ≠ "java/lang/invoke/VarHandle" ∧ (parseMethodDescriptor (px_nm nm_m143).desc).map (fun d => d.parameters.length) = some 1) ∧ plainName (px_nm nm_m143).cls = true) := ⟨rfl, ⟨nm_o10.1, nm_o10.2.1, nm_d4⟩, nm_o10.2.2⟩
theorem nm_f144 : (nm_mf[144]? = some (1, 1, 9)) ∧ (((px_nm nm_m144).cls ≠ "java/lang/invoke/MethodHandle" ∧ (px_nm nm_m144).cls ≠ "java/lang/invoke/VarHandle" ∧ (parseMethodDescriptor (px_nm nm_m144).desc).map (fun d => d.parameters.length) = some 1) ∧ plainName (px_nm nm_m144).cls = true) := ⟨rfl, ⟨nm_o10.1, nm_o10.2.1, nm_d12⟩, nm_o10.2.2⟩
theorem nm_f145 : (nm_mf[145]? = some (1, 1, 9)) ∧ (((px_nm nm_m145).cls ≠ "java/lang/invoke/MethodHandle" ∧ (px_nm nm_m145).cls ≠ "java/lang/invoke/VarHandle" ∧ (parseMethodDescriptor (px_nm nm_m145).desc).map (fun d => d.parameters.length) = some 1) ∧ plainName (px_nm nm_m145).cls = true) := ⟨rfl, ⟨nm_o10.1, nm_o10.2.1, nm_d34⟩, nm_o10.2.2⟩
theorem nm_f146 : (nm_mf[146]? = some (1, 0, 9)) ∧ (((px_nm nm_m146).cls ≠ "java/lang/invoke/MethodHandle" ∧ (px_nm nm_m146).cls ≠ "java/lang/invoke/VarHandle" ∧ (parseMethodDescriptor (px_nm nm_m146).desc).map (fun d => d.parameters.length) = some 0) ∧ plainName (px_nm nm_m146).cls = true) := ⟨rfl, ⟨nm_o10.1, nm_o10.2.1, nm_d27⟩, nm_o10.2.2⟩
theorem nm_f147 : (nm_mf[147]? = some (1, 1, 9)) ∧ (((px_nm nm_m147).cls ≠ "java/lang/invoke/MethodHandle" ∧ (px_nm nm_m147).cls ≠ "java/lang/invoke/VarHandle" ∧ (parseMethodDescriptor (px_nm nm_m147).desc).map (fun d => d.parameters.length) = some 1) ∧ plainName (px_nm nm_m147).cls = true) := ⟨rfl, ⟨nm_o10.1, nm_o10.2.1, nm_d4⟩, nm_o10.2.2⟩
theorem nm_f148 : (nm_mf[148]? = some (1, 0, 9)) ∧ (((px_nm nm_m148).cls ≠ "java/lang/invoke/MethodHandle" ∧ (px_nm nm_m148).cls ≠ "java/lang/invoke/VarHandle" ∧ (parseMethodDescriptor (px_nm nm_m148).desc).map (fun d => d.parameters.length) = some 0) ∧ plainName (px_nm nm_m148).cls = true) := ⟨rfl, ⟨nm_o10.1, nm_o10.2.1, nm_d19⟩, nm_o10.2.2⟩
theorem nm_f149 : (nm_mf[149]? = some (1, 1, 9)) ∧ (((px_nm nm_m149).cls ≠ "java/lang/invoke/MethodHandle" ∧ (px_nm nm_m149).cls ≠ "java/lang/invoke/VarHandle" ∧ (parseMethodDescriptor (px_nm nm_m149).desc).map (fun d => d.parameters.length) = some 1) ∧ plainName (px_nm nm_m149).cls = true) := ⟨rfl, ⟨nm_o10.1, nm_o10.2.1, nm_d4⟩, nm_o10.2.2⟩
theorem nm_f150 : (nm_mf[150]? = some (1, 2, 9)) ∧ (((px_nm nm_m150).cls ≠ "java/lang/invoke/MethodHandle" ∧ (px_nm nm_m150).cls ≠ "java/lang/invoke/VarHandle" ∧ (parseMethodDescriptor (px_nm nm_m150).desc).map (fun d => d.parameters.length) = some 2) ∧ plainName (px_nm nm_m150).cls = true) := ⟨rfl, ⟨nm_o10.1, nm_o10.2.1, nm_d30⟩, nm_o10.2.2⟩
theorem nm_f151 : (nm_mf[151]? = some (1, 3, 9)) ∧ (((px_nm nm_m151).cls ≠ "java/lang/invoke/MethodHandle" ∧ (px_nm nm_m151).cls ≠ "java/lang/invoke/VarHandle" ∧ (parseMethodDescriptor (px_nm nm_m151).desc).map (fun d => d.parameters.length) = some 3) ∧ plainName (px_nm nm_m151).cls = true) := ⟨rfl, ⟨nm_o10.1, nm_o10.2.1, nm_d23⟩, nm_o10.2.2⟩
theorem nm_f152 : (nm_mf[152]? = some (1, 2, 9)) ∧ (((px_nm nm_m152).cls ≠ "java/lang/invoke/MethodHandle" ∧ (px_nm nm_m152).cls ≠ "java/lang/invoke/VarHandle" ∧ (parseMethodDescriptor (px_nm nm_m152).desc).map (fun d => d.parameters.length) = some 2) ∧ plainName (px_nm nm_m152).cls = true) := ⟨rfl, ⟨nm_o10.1, nm_o10.2.1, nm_d5⟩, nm_o10.2.2⟩
theorem nm_f153 : (nm_mf[153]? = some (1, 1, 9)) ∧ (((px_nm nm_m153).cls ≠ "java/lang/invoke/MethodHandle" ∧ (px_nm nm_m153).cls ≠ "java/lang/invoke/VarHandle" ∧ (parseMethodDescriptor (px_nm nm_m153).desc).map (fun d => d.parameters.length) = some 1) ∧ plainName (px_nm nm_m153).cls = true) := ⟨rfl, ⟨nm_o10.1, nm_o10.2.1, nm_d13⟩, nm_o10.2.2⟩
theorem nm_f154 : (nm_mf[154]? = some (1, 1, 9)) ∧ (((px_nm nm_m154).cls ≠ "java/lang/invoke/MethodHandle" ∧ (px_nm nm_m154).cls ≠ "java/lang/invoke/VarHandle" ∧ (parseMethodDescriptor (px_nm nm_m154).desc).map (fun d => d.parameters.length) = some 1) ∧ plainName (px_nm nm_m154).cls = true) := ⟨rfl, ⟨nm_o10.1, nm_o10.2.1, nm_d12⟩, nm_o10.2.2⟩
theorem nm_f155 : (nm_mf[155]? = some (1, 2, 9)) ∧ (((px_nm nm_m155).cls ≠ "java/lang/invoke/MethodHandle" ∧ (px_nm nm_m155).cls ≠ "java/lang/invoke/VarHandle" ∧ (parseMethodDescriptor (px_nm nm_m155).desc).map (fun d => d.parameters.length) = some 2) ∧ plainName (px_nm nm_m155).cls = true) := ⟨rfl, ⟨nm_o10.1, nm_o10.2.1, nm_d30⟩, nm_o10.2.2⟩
theorem nm_f156 : (nm_mf[156]? = some (1, 1, 9)) ∧ (((px_nm nm_m156).cls ≠ "java/lang/invoke/MethodHandle" ∧ (px_nm nm_m156).cls ≠ "java/lang/invoke/VarHandle" ∧ (parseMethodDescriptor (px_nm nm_m156).desc).map (fun d => d.parameters.length) = some 1) ∧ plainName (px_nm nm_m156).cls = true) := ⟨rfl, ⟨nm_o10.1, nm_o10.2.1, nm_d13⟩, nm_o10.2.2⟩
theorem nm_f157 : (nm_mf[157]? = some (1, 0, 9)) ∧ (((px_nm nm_m157).cls ≠ "java/lang/invoke/MethodHandle" ∧ (px_nm nm_m157).cls ≠ "java/lang/invoke/VarHandle" ∧ (parseMethodDescriptor (px_nm nm_m157).desc).map (fun d => d.parameters.length) = some 0) ∧ plainName (px_nm nm_m157).cls = true) := ⟨rfl, ⟨nm_o10.1, nm_o10.2.1, nm_d0⟩, nm_o10.2.2⟩
theorem nm_f158 : (nm_mf[158]? = some (1, 0, 9)) ∧ (((px_nm nm_m158).cls ≠ "java/lang/invoke/MethodHandle" ∧ (px_nm nm_m158).cls ≠ "java/lang/invoke/VarHandle" ∧ (parseMethodDescriptor (px_nm nm_m158).desc).map (fun d => d.parameters.length) = some 0) ∧ plainName (px_nm nm_m158).cls = true) := ⟨rfl, ⟨nm_o10.1, nm_o10.2.1, nm_d20⟩, nm_o10.2.2⟩
theorem nm_f159 : (nm_mf[159]? = some (1, 0, 9)) ∧ (((px_nm nm_m159).cls ≠ "java/lang/invoke/MethodHandle" ∧ (px_nm nm_m159).cls ≠ "java/lang/invoke/VarHandle" ∧ (parseMethodDescriptor (px_nm nm_m159).desc).map (fun d => d.parameters.length) = some 0) ∧ plainName (px_nm nm_m159).cls = true) := ⟨rfl, ⟨nm_o10.1, nm_o10.2.1, nm_d20⟩, nm_o10.2.2⟩
theorem nm_f160 : (nm_mf[160]? = some (1, 2, 9)) ∧ (((px_nm nm_m160).cls ≠ "java/lang/invoke/MethodHandle" ∧ (px_nm nm_m160).cls ≠ "java/lang/invoke/VarHandle" ∧ (parseMethodDescriptor (px_nm nm_m160).desc).map (fun d => d.parameters.length) = some 2) ∧ plainName (px_nm nm_m160).cls = true) := ⟨rfl, ⟨nm_o10.1, nm_o10.2.1, nm_d35⟩, nm_o10.2.2⟩
theorem nm_f161 : (nm_mf[161]? = some (1, 0, 9)) ∧ (((px_nm nm_m161).cls ≠ "java/lang/invoke/MethodHandle" ∧ (px_nm nm_m161).cls ≠ "java/lang/invoke/VarHandle" ∧ (parseMethodDescriptor (px_nm nm_m161).desc).map (fun d => d.parameters.length) = some 0) ∧ plainName (px_nm nm_m161).cls = true) := ⟨rfl, ⟨nm_o10.1, nm_o10.2.1, nm_d0⟩, nm_o10.2.2⟩
theorem nm_f162 : (nm_mf[162]? = some (1, 0, 9)) ∧ (((px_nm nm_m162).cls ≠ "java/lang/invoke/MethodHandle" ∧ (px_nm nm_m162).cls ≠ "java/lang/invoke/VarHandle" ∧ (parseMethodDescriptor (px_nm nm_m162).desc).map (fun d => d.parameters.length) = some 0) ∧ plainName (px_nm nm_m162).cls = true) := ⟨rfl, ⟨nm_o10.1, nm_o10.2.1, nm_d0⟩, nm_o10.2.2⟩
theorem nm_f163 : (nm_mf[163]? = some (1, 1, 9)) ∧ (((px_nm nm_m163).cls ≠ "java/lang/invoke/MethodHandle" ∧ (px_nm nm_m163).cls ≠ "java/lang/invoke/VarHandle" ∧ (parseMethodDescriptor (px_nm nm_m163).desc).map (fun d => d.parameters.length) = some 1) ∧ plainName (px_nm nm_m163).cls = true) := ⟨rfl, ⟨nm_o10.1, nm_o10.2.1, nm_d4⟩, nm_o10.2.2⟩
theorem nm_f164 : (nm_mf[164]? = some (0, 2, 9)) ∧ (((px_nm nm_m164).cls ≠ "java/lang/invoke/MethodHandle" ∧ (px_nm nm_m164).cls ≠ "java/lang/invoke/VarHandle" ∧ (parseMethodDescriptor (px_nm nm_m164).desc).map (fun d => d.parameters.length) = some 2) ∧ plainName (px_nm nm_m164).cls = true) := ⟨rfl, ⟨nm_o10.1, nm_o10.2.1, nm_d5⟩, nm_o10.2.2⟩
theorem nm_f165 : (nm_mf[165]? = some (1, 1, 9)) ∧ (((px_nm nm_m165).cls ≠ "java/lang/invoke/MethodHandle" ∧ (px_nm nm_m165).cls ≠ "java/lang/invoke/VarHandle" ∧ (parseMethodDescriptor (px_nm nm_m165).desc).map (fun d => d.parameters.length) = some 1) ∧ plainName (px_nm nm_m165).cls = true) := ⟨rfl, ⟨nm_o10.1, nm_o10.2.1, nm_d4⟩, nm_o10.2.2⟩
theorem nm_f166 : (nm_mf[166]? = some (1, 0, 9)) ∧ (((px_nm nm_m166).cls ≠ "java/lang/invoke/MethodHandle" ∧ (px_nm nm_m166).cls ≠ "java/lang/invoke/VarHandle" ∧ (parseMethodDescriptor (px_nm nm_m166).desc).map (fun d => d.parameters.length) = some 0) ∧ plainName (px_nm nm_m166).cls = true) := ⟨rfl, ⟨nm_o10.1, nm_o10.2.1, nm_d19⟩, nm_o10.2.2⟩
theorem nm_f167 : (nm_mf[167]? = some (1, 2, 9)) ∧ (((px_nm nm_m167).cls ≠ "java/lang/invoke/MethodHandle" ∧ (px_nm nm_m167).cls ≠ "java/lang/invoke/VarHandle" ∧ (parseMethodDescriptor (px_nm nm_m167).desc).map (fun d => d.parameters.length) = some 2) ∧ plainName (px_nm nm_m167).cls = true) := ⟨rfl, ⟨nm_o10.1, nm_o10.2.1, nm_d17⟩, nm_o10.2.2⟩
theorem nm_f168 : (nm_mf[168]? = some (1, 2, 9)) ∧ (((px_nm nm_m168).cls ≠ "java/lang/invoke/MethodHandle" ∧ (px_nm nm_m168).cls ≠ "java/lang/invoke/VarHandle" ∧ (parseMethodDescriptor (px_nm nm_m168).desc).map (fun d => d.parameters.length) = some 2) ∧ plainName (px_nm nm_m168).cls = true) := ⟨rfl, ⟨nm_o10.1, nm_o10.2.1, nm_d17⟩, nm_o10.2.2⟩
theorem nm_f169 : (nm_mf[169]? = some (1, 2, 9)) ∧ (((px_nm nm_m169).cls ≠ "java/lang/invoke/MethodHandle" ∧ (px_nm nm_m169).cls ≠ "java/lang/invoke/VarHandle" ∧ (parseMethodDescriptor (px_nm nm_m169).desc).map (fun d => d.parameters.length) = some 2) ∧ plainName (px_nm nm_m169).cls = true) := ⟨rfl, ⟨nm_o10.1, nm_o10.2.1, nm_d28⟩, nm_o10.2.2⟩
theorem nm_f170 : (nm_mf[170]? = some (1, 0, 9)) ∧ (((px_nm nm_m170).cls ≠ "java/lang/invoke/MethodHandle" ∧ (px_nm nm_m170).cls ≠ "java/lang/invoke/VarHandle" ∧ (parseMethodDescriptor (px_nm nm_m170).desc).map (fun d => d.parameters.length) = some 0) ∧ plainName (px_nm nm_m170).cls = true) := ⟨rfl, ⟨nm_o10.1, nm_o10.2.1, nm_d19⟩, nm_o10.2.2⟩
theorem nm_f171 : (nm_mf[171]? = some (1, 2, 9)) ∧ (((px_nm nm_m171).cls ≠ "java/lang/invoke/MethodHandle" ∧ (px_nm nm_m171).cls ≠ "java/lang/invoke/VarHandle" ∧ (parseMethodDescriptor (px_nm nm_m171).desc).map (fun d => d.parameters.length) = some 2) ∧ plainName (px_nm nm_m171).cls = true) := ⟨rfl, ⟨nm_o10.1, nm_o10.2.1, nm_d5⟩, nm_o10.2.2⟩
theorem nm_f172 : (nm_mf[172]? = some (1, 1, 9)) ∧ (((px_nm nm_m172).cls ≠ "java/lang/invoke/MethodHandle" ∧ (px_nm nm_m172).cls ≠ "java/lang/invoke/VarHandle" ∧ (parseMethodDescriptor (px_nm nm_m172).desc).map (fun d => d.parameters.length) = some 1) ∧ plainName (px_nm nm_m172).cls = true) := ⟨rfl, ⟨nm_o10.1, nm_o10.2.1, nm_d4⟩, nm_o10.2.2⟩
theorem nm_f173 : (nm_mf[173]? = some (1, 1, 9)) ∧ (((px_nm nm_m173).cls ≠ "java/lang/invoke/MethodHandle" ∧ (px_nm nm_m173).cls ≠ "java/lang/invoke/VarHandle" ∧ (parseMethodDescriptor (px_nm nm_m173).desc).map (fun d => d.parameters.length) = some 1) ∧ plainName (px_nm nm_m173).cls = true) := ⟨rfl, ⟨nm_o10.1, nm_o10.2.1, nm_d13⟩, nm_o10.2.2⟩
theorem nm_f174 : (nm_mf[174]? = some (0, 2, 9)) ∧ (((px_nm nm_m174).cls ≠ "java/lang/invoke/MethodHandle" ∧ (px_nm nm_m174).cls ≠ "java/lang/invoke/VarHandle" ∧ (parseMethodDescriptor (px_nm nm_m174).desc).map (fun d => d.parameters.length) = some 2) ∧ plainName (px_nm nm_m174).cls = true) := ⟨rfl, ⟨nm_o10.1, nm_o10.2.1, nm_d36⟩, nm_o10.2.2⟩
theorem nm_f175 : (nm_mf[175]? = some (1, 2, 9)) ∧ (((px_nm nm_m175).cls ≠ "java/lang/invoke/MethodHandle" ∧ (px_nm nm_m175).cls ≠ "java/lang/invoke/VarHandle" ∧ (parseMethodDescriptor (px_nm nm_m175).desc).map (fun d => d.parameters.length) = some 2) ∧ plainName (px_nm nm_m175).cls = true) := ⟨rfl, ⟨nm_o10.1, nm_o10.2.1, nm_d37⟩, nm_o10.2.2⟩
theorem nm_f176 : (nm_mf[176]? = some (1, 2, 9)) ∧ (((px_nm nm_m176).cls ≠ "java/lang/invoke/MethodHandle" ∧ (px_nm nm_m176).cls ≠ "java/lang/invoke/VarHandle" ∧ (parseMethodDescriptor (px_nm nm_m176).desc).map (fun d => d.parameters.length) = some 2) ∧ plainName (px_nm nm_m176).cls = true) := ⟨rfl, ⟨nm_o10.1, nm_o10.2.1, nm_d3⟩, nm_o10.2.2⟩
theorem nm_f177 : (nm_mf[177]? = some (1, 1, 9)) ∧ (((px_nm nm_m177).cls ≠ "java/lang/invoke/MethodHandle" ∧ (px_nm nm_m177).cls ≠ "java/lang/invoke/VarHandle" ∧ (parseMethodDescriptor (px_nm nm_m177).desc).map (fun d => d.parameters.length) = some 1) ∧ plainName (px_nm nm_m177).cls = true) := ⟨rfl, ⟨nm_o10.1, nm_o10.2.1, nm_d13⟩, nm_o10.2.2⟩
theorem nm_f178 : (nm_mf[178]? = some (1, 2, 9)) ∧ (((px_nm nm_m178).cls ≠ "java/lang/invoke/MethodHandle" ∧ (px_nm nm_m178).cls ≠ "java/lang/invoke/VarHandle" ∧ (parseMethodDescriptor (px_nm nm_m178).desc).map (fun d => d.parameters.length) = some 2) ∧ plainName (px_nm nm_m178).cls = true) := ⟨rfl, ⟨nm_o10.1, nm_o10.2.1, nm_d30⟩, nm_o10.2.2⟩
theorem nm_f179 : (nm_mf[179]? = some (1, 2, 9)) ∧ (((px_nm nm_m179).cls ≠ "java/lang/invoke/MethodHandle" ∧ (px_nm nm_m179).cls ≠ "java/lang/invoke/VarHandle" ∧ (parseMethodDescriptor (px_nm nm_m179).desc).map (fun d => d.parameters.length) = some 2) ∧ plainName (px_nm nm_m179).cls = true) := ⟨rfl, ⟨nm_o10.1, nm_o10.2.1, nm_d30⟩, nm_o10.2.2⟩
theorem nm_f180 : (nm_mf[180]? = some (1, 1, 9)) ∧ (((px_nm nm_m180).cls ≠ "java/lang/invoke/MethodHandle" ∧ (px_nm nm_m180).cls ≠ "java/lang/invoke/VarHandle" ∧ (parseMethodDescriptor (px_nm nm_m180).desc).map (fun d => d.parameters.length) = some 1) ∧ plainName (px_nm nm_m180).cls = true) := ⟨rfl, ⟨nm_o10.1, nm_o10.2.1, nm_d12⟩, nm_o10.2.2⟩
theorem nm_f181 : (nm_mf[181]? = some (1, 1, 9)) ∧ (((px_nm nm_m181).cls ≠ "java/lang/invoke/MethodHandle" ∧ (px_nm nm_m181).cls ≠ "java/lang/invoke/VarHandle" ∧ (parseMethodDescriptor (px_nm nm_m181).desc).map (fun d => d.parameters.length) = some 1) ∧ plainName (px_nm nm_m181).cls = true) := ⟨rfl, ⟨nm_o10.1, nm_o10.2.1, nm_d12⟩, nm_o10.2.2⟩
theorem nm_f182 : (nm_mf[182]? = some (1, 1, 9)) ∧ (((px_nm nm_m182).cls ≠ "java/lang/invoke/MethodHandle" ∧ (px_nm nm_m182).cls ≠ "java/lang/invoke/VarHandle" ∧ (parseMethodDescriptor (px_nm nm_m182).desc).map (fun d => d.parameters.length) = some 1) ∧ plainName (px_nm nm_m182).cls = true) := ⟨rfl, ⟨nm_o10.1, nm_o10.2.1, nm_d12⟩, nm_o10.2.2⟩
theorem nm_f183 : (nm_mf[183]? = some (1, 2, 9)) ∧ (((px_nm nm_m183).cls ≠ "java/lang/invoke/MethodHandle" ∧ (px_nm nm_m183).cls ≠ "java/lang/invoke/VarHandle" ∧ (parseMethodDescriptor (px_nm nm_m183).desc).map (fun d => d.parameters.length) = some 2) ∧ plainName (px_nm nm_m183).cls = true) := ⟨rfl, ⟨nm_o10.1, nm_o10.2.1, nm_d5⟩, nm_o10.2.2⟩
theorem nm_f184 : (nm_mf[184]? = some (1, 1, 9)) ∧ (((px_nm nm_m184).cls ≠ "java/lang/invoke/MethodHandle" ∧ (px_nm nm_m184).cls ≠ "java/lang/invoke/VarHandle" ∧ (parseMethodDescriptor (px_nm nm_m184).desc).map (fun d => d.parameters.length) = some 1) ∧ plainName (px_nm nm_m184).cls = true) := ⟨rfl, ⟨nm_o10.1, nm_o10.2.1, nm_d13⟩, nm_o10.2.2⟩
theorem nm_f185 : (nm_mf[185]? = some (1, 1, 9)) ∧ (((px_nm nm_m185).cls ≠ "java/lang/invoke/MethodHandle" ∧ (px_nm nm_m185).cls ≠ "java/lang/invoke/VarHandle" ∧ (parseMethodDescriptor (px_nm nm_m185).desc).map (fun d => d.parameters.length) = some 1) ∧ plainName (px_nm nm_m185).cls = true) := ⟨rfl, ⟨nm_o10.1, nm_o10.2.1, nm_d12⟩, nm_o10.2.2⟩
theorem nm_f186 : (nm_mf[186]? = some (1, 1, 9)) ∧ (((px_nm nm_m186).cls ≠ "java/lang/invoke/MethodHandle" ∧ (px_nm nm_m186).cls ≠ "java/lang/invoke/VarHandle" ∧ (parseMethodDescriptor (px_nm nm_m186).desc).map (fun d => d.parameters.length) = some 1) ∧ plainName (px_nm nm_m186).cls = true) := ⟨rfl, ⟨nm_o10.1, nm_o10.2.1, nm_d21⟩, nm_o10.2.2⟩
theorem nm_f187 : (nm_mf[187]? = some (1, 1, 9)) ∧ (((px_nm nm_m187).cls ≠ "java/lang/invoke/MethodHandle" ∧ (px_nm nm_m187).cls ≠ "java/lang/invoke/VarHandle" ∧ (parseMethodDescriptor (px_nm nm_m187).desc).map (fun d => d.parameters.length) = some 1) ∧ plainName (px_nm nm_m187).cls = true) := ⟨rfl, ⟨nm_o10.1, nm_o10.2.1, nm_d21⟩, nm_o10.2.2⟩
theorem nm_f188 : (nm_mf[188]? = some (1, 1, 9)) ∧ (((px_nm nm_m188).cls ≠ "java/lang/invoke/MethodHandle" ∧ (px_nm nm_m188).cls ≠ "java/lang/invoke/VarHandle" ∧ (parseMethodDescriptor (px_nm nm_m188).desc).map (fun d => d.parameters.length) = some 1) ∧ plainName (px_nm nm_m188).cls = true) := ⟨rfl, ⟨nm_o10.1, nm_o10.2.1, nm_d12⟩, nm_o10.2.2⟩
theorem nm_f189 : (nm_mf[189]? = some (1, 2, 9)) ∧ (((px_nm nm_m189).cls ≠ "java/lang/invoke/MethodHandle" ∧ (px_nm nm_m189).cls ≠ "java/lang/invoke/VarHandle" ∧ (parseMethodDescriptor (px_nm nm_m189).desc).map (fun d => d.parameters.length) = some 2) ∧ plainName (px_nm nm_m189).cls = true) := ⟨rfl, ⟨nm_o10.1, nm_o10.2.1, nm_d5⟩, nm_o10.2.2⟩
theorem nm_f190 : (nm_mf[190]? = some (1, 1, 9)) ∧ (((px_nm nm_m190).cls ≠ "java/lang/invoke/MethodHandle" ∧ (px_nm nm_m190).cls ≠ "java/lang/invoke/VarHandle" ∧ (parseMethodDescriptor (px_nm nm_m190).desc).map (fun d => d.parameters.length) = some 1) ∧ plainName (px_nm nm_m190).cls = true) := ⟨rfl, ⟨nm_o10.1, nm_o10.2.1, nm_d4⟩, nm_o10.2.2⟩
theorem nm_f191 : (nm_mf[191]? = some (1, 1, 9)) ∧ (((px_nm nm_m191).cls ≠ "java/lang/invoke/MethodHandle" ∧ (px_nm nm_m191).cls ≠ "java/lang/invoke/VarHandle" ∧ (parseMethodDescriptor (px_nm nm_m191).desc).map (fun d => d.parameters.length) = some 1) ∧ plainName (px_nm nm_m191).cls = true) := ⟨rfl, ⟨nm_o10.1, nm_o10.2.1, nm_d4⟩, nm_o10.2.2⟩
theorem nm_f192 : (nm_mf[192]? = some (1, 1, 9)) ∧ (((px_nm nm_m192).cls ≠ "java/lang/invoke/MethodHandle" ∧ (px_nm nm_m192).cls ≠ "java/lang/invoke/VarHandle" ∧ (parseMethodDescriptor (px_nm nm_m192).desc).map (fun d => d.parameters.length) = some 1) ∧ plainName (px_nm nm_m192).cls = true) := ⟨rfl, ⟨nm_o10.1, nm_o10.2.1, nm_d21⟩, nm_o10.2.2⟩
theorem nm_f193 : (nm_mf[193]? = some (1, 1, 9)) ∧ (((px_nm nm_m193).cls ≠ "java/lang/invoke/MethodHandle" ∧ (px_nm nm_m193).cls ≠ "java/lang/invoke/VarHandle" ∧ (parseMethodDescriptor (px_nm nm_m193).desc).map (fun d => d.parameters.length) = some 1) ∧ plainName (px_nm nm_m193).cls = true) := ⟨rfl, ⟨nm_o10.1, nm_o10.2.1, nm_d4⟩, nm_o10.2.2⟩
theorem nm_f194 : (nm_mf[194]? = some (1, 1, 9)) ∧ (((px_nm nm_m194).cls ≠ "java/lang/invoke/MethodHandle" ∧ (px_nm nm_m194).cls ≠ "java/lang/invoke/VarHandle" ∧ (parseMethodDescriptor (px_nm nm_m194).desc).map (fun d => d.parameters.length) = some 1) ∧ plainName (px_nm nm_m194).cls = true) := ⟨rfl, ⟨nm_o10.1, nm_o10.2.1, nm_d4⟩, nm_o10.2.2⟩
theorem nm_f195 : (nm_mf[195]? = some (1, 1, 9)) ∧ (((px_nm nm_m195).cls ≠ "java/lang/invoke/MethodHandle" ∧ (px_nm nm_m195).cls ≠ "java/lang/invoke/VarHandle" ∧ (parseMethodDescriptor (px_nm nm_m195).desc).map (fun d => d.parameters.length) = some 1) ∧ plainName (px_nm nm_m195).cls = true) := ⟨rfl, ⟨nm_o10.1, nm_o10.2.1, nm_d4⟩, nm_o10.2.2⟩
theorem nm_f196 : (nm_mf[196]? = some (1, 2, 9)) ∧ (((px_nm nm_m196).cls ≠ "java/lang/invoke/MethodHandle" ∧ (px_nm nm_m196).cls ≠ "java/lang/invoke/VarHandle" ∧ (parseMethodDescriptor (px_nm nm_m196).desc).map (fun d => d.parameters.length) = some 2) ∧ plainName (px_nm nm_m196).cls = true) := ⟨rfl, ⟨nm_o10.1, nm_o10.2.1, nm_d5⟩, nm_o10.2.2⟩
theorem nm_f197 : (nm_mf[197]? = some (1, 1, 9)) ∧ (((px_nm nm_m197).cls ≠ "java/lang/invoke/MethodHandle" ∧ (px_nm nm_m197).cls ≠ "java/lang/invoke/VarHandle" ∧ (parseMethodDescriptor (px_nm nm_m197).desc).map (fun d => d.parameters.length) = some 1) ∧ plainName (px_nm nm_m197).cls = true) := ⟨rfl, ⟨nm_o10.1, nm_o10.2.1, nm_d4⟩, nm_o10.2.2⟩
theorem nm_f198 : (nm_mf[198]? = some (1, 0, 9)) ∧ (((px_nm nm_m198).cls ≠ "java/lang/invoke/MethodHandle" ∧ (px_nm nm_m198).cls ≠ "java/lang/invoke/VarHandle" ∧ (parseMethodDescriptor (px_nm nm_m198).desc).map (fun d => d.parameters.length) = some 0) ∧ plainName (px_nm nm_m198).cls = true) := ⟨rfl, ⟨nm_o10.1, nm_o10.2.1, nm_d19⟩, nm_o10.2.2⟩
theorem nm_f199 : (nm_mf[199]? = some (1, 0, 9)) ∧ (((px_nm nm_m199).cls ≠ "java/lang/invoke/MethodHandle" ∧ (px_nm nm_m199).cls ≠ "java/lang/invoke/VarHandle" ∧ (parseMethodDescriptor (px_nm nm_m199).desc).map (fun d => d.parameters.length) = some 0) ∧ plainName (px_nm nm_m199).cls = true) := ⟨rfl, ⟨nm_o10.1, nm_o10.2.1, nm_d19⟩, nm_o10.2.2⟩
theorem nm_f200 : (nm_mf[200]? = some (1, 2, 9)) ∧ (((px_nm nm_m200).cls ≠ "java/lang/invoke/MethodHandle" ∧ (px_nm nm_m200).cls ≠ "java/lang/invoke/VarHandle" ∧ (parseMethodDescriptor (px_nm nm_m200).desc).map (fun d => d.parameters.length) = some 2) ∧ plainName (px_nm nm_m200).cls = true) := ⟨rfl, ⟨nm_o10.1, nm_o10.2.1, nm_d5⟩, nm_o10.2.2⟩
theorem nm_f201 : (nm_mf[201]? = some (1, 2, 9)) ∧ (((px_nm nm_m201).cls ≠ "java/lang/invoke/MethodHandle" ∧ (px_nm nm_m201).cls ≠ "java/lang/invoke/VarHandle" ∧ (parseMethodDescriptor (px_nm nm_m201).desc).map (fun d => d.parameters.length) = some 2) ∧ plainName (px_nm nm_m201).cls = true) := ⟨rfl, ⟨nm_o10.1, nm_o10.2.1, nm_d5⟩, nm_o10.2.2⟩
theorem nm_f202 : (nm_mf[202]? = some (1, 0, 9)) ∧ (((px_nm nm_m202).cls ≠ "java/lang/invoke/MethodHandle" ∧ (px_nm nm_m202).cls ≠ "java/lang/invoke/VarHandle" ∧ (parseMethodDescriptor (px_nm nm_m202).desc).map (fun d => d.parameters.length) = some 0) ∧ plainName (px_nm nm_m202).cls = true) := ⟨rfl, ⟨nm_o10.1, nm_o10.2.1, nm_d19⟩, nm_o10.2.2⟩
theorem nm_f203 : (nm_mf[203]? = some (1, 3, 9)) ∧ (((px_nm nm_m203).cls ≠ "java/lang/invoke/MethodHandle" ∧ (px_nm nm_m203).cls ≠ "java/lang/invoke/VarHandle" ∧ (parseMethodDescriptor (px_nm nm_m203).desc).map (fun d => d.parameters.length) = some 3) ∧ plainName (px_nm nm_m203).cls = true) := ⟨rfl, ⟨nm_o10.1, nm_o10.2.1, nm_d23⟩, nm_o10.2.2⟩
theorem nm_f204 : (nm_mf[204]? = some (1, 3, 9)) ∧ (((px_nm nm_m204).cls ≠ "java/lang/invoke/MethodHandle" ∧ (px_nm nm_m204).cls ≠ "java/lang/invoke/VarHandle" ∧ (parseMethodDescriptor (px_nm nm_m204).desc).map (fun d => d.parameters.length) = some 3) ∧ plainName (px_nm nm_m204).cls = true) := ⟨rfl, ⟨nm_o10.1, nm_o10.2.1, nm_d23⟩, nm_o10.2.2⟩
theorem nm_f205 : (nm_mf[205]? = some (1, 3, 9)) ∧ (((px_nm nm_m205).cls ≠ "java/lang/invoke/MethodHandle" ∧ (px_nm nm_m205).cls ≠ "java/lang/invoke/VarHandle" ∧ (parseMethodDescriptor (px_nm nm_m205).desc).map (fun d => d.parameters.length) = some 3) ∧ plainName (px_nm nm_m205).cls = true) := ⟨rfl, ⟨nm_o10.1, nm_o10.2.1, nm_d6⟩, nm_o10.2.2⟩
theorem nm_f206 : (nm_mf[206]? = some (1, 5, 9)) ∧ (((px_nm nm_m206).cls ≠ "java/lang/invoke/MethodHandle" ∧ (px_nm nm_m206).cls ≠ "java/lang/invoke/VarHandle" ∧ (parseMethodDescriptor (px_nm nm_m206).desc).map (fun d => d.parameters.length) = some 5) ∧ plainName (px_nm nm_m206).cls = true) := ⟨rfl, ⟨nm_o10.1, nm_o10.2.1, nm_d31⟩, nm_o10.2.2⟩
theorem nm_f207 : (nm_mf[207]? = some (1, 4, 9)) ∧ (((px_nm nm_m207).cls ≠ "java/lang/invoke/MethodHandle" ∧ (px_nm nm_m207).cls ≠ "java/lang/invoke/VarHandle" ∧ (parseMethodDescriptor (px_nm nm_m207).desc).map (fun d => d.parameters.length) = some 4) ∧ plainName (px_nm nm_m207).cls = true) := ⟨rfl, ⟨nm_o10.1, nm_o10.2.1, nm_d24⟩, nm_o10.2.2⟩
theorem nm_f208 : (nm_mf[208]? = some (1, 1, 9)) ∧ (((px_nm nm_m208).cls ≠ "java/lang/invoke/MethodHandle" ∧ (px_nm nm_m208).cls ≠ "java/lang/invoke/VarHandle" ∧ (parseMethodDescriptor (px_nm nm_m208).desc).map (fun d => d.parameters.length) = some 1) ∧ plainName (px_nm nm_m208).cls = true) := ⟨rfl, ⟨nm_o10.1, nm_o10.2.1, nm_d21⟩, nm_o10.2.2⟩
theorem nm_f209 : (nm_mf[209]? = some (1, 4, 9)) ∧ (((px_nm nm_m209).cls ≠ "java/lang/invoke/MethodHandle" ∧ (px_nm nm_m209).cls ≠ "java/lang/invoke/VarHandle" ∧ (parseMethodDescriptor (px_nm nm_m209).desc).map (fun d => d.parameters.length) = some 4) ∧ plainName (px_nm nm_m209).cls = true) := ⟨rfl, ⟨nm_o10.1, nm_o10.2.1, nm_d24⟩, nm_o10.2.2⟩
theorem nm_f210 : (nm_mf[210]? = some (1, 2, 9)) ∧ (((px_nm nm_m210).cls ≠ "java/lang/invoke/MethodHandle" ∧ (px_nm nm_m210).cls ≠ "java/lang/invoke/VarHandle" ∧ (parseMethodDescriptor (px_nm nm_m210).desc).map (fun d => d.parameters.length) = some 2) ∧ plainName (px_nm nm_m210).cls = true) := ⟨rfl, ⟨nm_o10.1, nm_o10.2.1, nm_d5⟩, nm_o10.2.2⟩
theorem nm_f211 : (nm_mf[211]? = some (1, 1, 9)) ∧ (((px_nm nm_m211).cls ≠ "java/lang/invoke/MethodHandle" ∧ (px_nm nm_m211).cls ≠ "java/lang/invoke/VarHandle" ∧ (parseMethodDescriptor (px_nm nm_m211).desc).map (fun d => d.parameters.length) = some 1) ∧ plainName (px_nm nm_m211).cls = true) := ⟨rfl, ⟨nm_o10.1, nm_o10.2.1, nm_d21⟩, nm_o10.2.2⟩
theorem nm_f212 : (nm_mf[212]? = some (1, 2, 9)) ∧ (((px_nm nm_m212).cls ≠ "java/lang/invoke/MethodHandle" ∧ (px_nm nm_m212).cls ≠ "java/lang/invoke/VarHandle" ∧ (parseMethodDescriptor (px_nm nm_m212).desc).map (fun d => d.parameters.length) = some 2) ∧ plainName (px_nm nm_m212).cls = true) := ⟨rfl, ⟨nm_o10.1, nm_o10.2.1, nm_d5⟩, nm_o10.2.2⟩
theorem nm_f213 : (nm_mf[213]? = some (1, 1, 9)) ∧ (((px_nm nm_m213).cls ≠ "java/lang/invoke/MethodHandle" ∧ (px_nm nm_m213).cls ≠ "java/lang/invoke/VarHandle" ∧ (parseMethodDescriptor (px_nm nm_m213).desc).map (fun d => d.parameters.length) = some 1) ∧ plainName (px_nm nm_m213).cls = true) := ⟨rfl, ⟨nm_o10.1, nm_o10.2.1, nm_d4⟩, nm_o10.2.2⟩
theorem nm_f214 : (nm_mf[214]? = some (1, 0, 9)) ∧ (((px_nm nm_m214).cls ≠ "java/lang/invoke/MethodHandle" ∧ (px_nm nm_m214).cls ≠ "java/lang/invoke/VarHandle" ∧ (parseMethodDescriptor (px_nm nm_m214).desc).map (fun d => d.parameters.length) = some 0) ∧ plainName (px_nm nm_m214).cls = true) := ⟨rfl, ⟨nm_o10.1, nm_o10.2.1, nm_d19⟩, nm_o10.2.2⟩
theorem nm_f215 : (nm_mf[215]? = some (1, 1, 9)) ∧ (((px_nm nm_m215).cls ≠ "java/lang/invoke/MethodHandle" ∧ (px_nm nm_m215).cls ≠ "java/lang/invoke/VarHandle" ∧ (parseMethodDescriptor (px_nm nm_m215).desc).map (fun d => d.parameters.length) = some 1) ∧ plainName (px_nm nm_m215).cls = true) := ⟨rfl, ⟨nm_o10.1, nm_o10.2.1, nm_d13⟩, nm_o10.2.2⟩
theorem nm_f216 : (nm_mf[216]? = some (1, 2, 9)) ∧ (((px_nm nm_m216).cls ≠ "java/lang/invoke/MethodHandle" ∧ (px_nm nm_m216).cls ≠ "java/lang/invoke/VarHandle" ∧ (parseMethodDescriptor (px_nm nm_m216).desc).map (fun d => d.parameters.length) = some 2) ∧ plainName (px_nm nm_m216).cls = true) := ⟨rfl, ⟨nm_o10.1, nm_o10.2.1, nm_d22⟩, nm_o10.2.2⟩
theorem nm_f217 : (nm_mf[217]? = some (1, 2, 9)) ∧ (((px_nm nm_m217).cls ≠ "java/lang/invoke/MethodHandle" ∧ (px_nm nm_m217).cls ≠ "java/lang/invoke/VarHandle" ∧ (parseMethodDescriptor (px_nm nm_m217).desc).map (fun d => d.parameters.length) = some 2) ∧ plainName (px_nm nm_m217).cls = true) := ⟨rfl, ⟨nm_o10.1, nm_o10.2.1, nm_d5⟩, nm_o10.2.2⟩
theorem nm_f218 : (nm_mf[218]? = some (1, 0, 9)) ∧ (((px_nm nm_m218).cls ≠ "java/lang/invoke/MethodHandle" ∧ (px_nm nm_m218).cls ≠ "java/lang/invoke/VarHandle" ∧ (parseMethodDescriptor (px_nm nm_m218).desc).map (fun d => d.parameters.length) = some 0) ∧ plainName (px_nm nm_m218).cls = true) := ⟨rfl, ⟨nm_o10.1, nm_o10.2.1, nm_d19⟩, nm_o10.2.2⟩
theorem nm_f219 : (nm_mf[219]? = some (1, 1, 9)) ∧ (((px_nm nm_m219).cls ≠ "java/lang/invoke/MethodHandle" ∧ (px_nm nm_m219).cls ≠ "java/lang/invoke/VarHandle" ∧ (parseMethodDescriptor (px_nm nm_m219).desc).map (fun d => d.parameters.length) = some 1) ∧ plainName (px_nm nm_m219).cls = true) := ⟨rfl, ⟨nm_o10.1, nm_o10.2.1, nm_d4⟩, nm_o10.2.2⟩
theorem nm_f220 : (nm_mf[220]? = some (1, 1, 9)) ∧ (((px_nm nm_m220).cls ≠ "java/lang/invoke/MethodHandle" ∧ (px_nm nm_m220).cls ≠ "java/lang/invoke/VarHandle" ∧ (parseMethodDescriptor (px_nm nm_m220).desc).map (fun d => d.parameters.length) = some 1) ∧ plainName (px_nm nm_m220).cls = true) := ⟨rfl, ⟨nm_o10.1, nm_o10.2.1, nm_d12⟩, nm_o10.2.2⟩
theorem nm_f221 : (nm_mf[221]? = some (1, 1, 9)) ∧ (((px_nm nm_m221).cls ≠ "java/lang/invoke/MethodHandle" ∧ (px_nm nm_m221).cls ≠ "java/lang/invoke/VarHandle" ∧ (parseMethodDescriptor (px_nm nm_m221).desc).map (fun d => d.parameters.length) = some 1) ∧ plainName (px_nm nm_m221).cls = true) := ⟨rfl, ⟨nm_o10.1, nm_o10.2.1, nm_d12⟩, nm_o10.2.2⟩
theorem nm_f222 : (nm_mf[222]? = some (1, 0, 9)) ∧ (((px_nm nm_m222).cls ≠ "java/lang/invoke/MethodHandle" ∧ (px_nm nm_m222).cls ≠ "java/lang/invoke/VarHandle" ∧ (parseMethodDescriptor (px_nm nm_m222).desc).map (fun d => d.parameters.length) = some 0) ∧ plainName (px_nm nm_m222).cls = true) := ⟨rfl, ⟨nm_o10.1, nm_o10.2.1, nm_d19⟩, nm_o10.2.2⟩
theorem nm_f223 : (nm_mf[223]? = some (1, 1, 9)) ∧ (((px_nm nm_m223).cls ≠ "java/lang/invoke/MethodHandle" ∧ (px_nm nm_m223).cls ≠ "java/lang/invoke/VarHandle" ∧ (parseMethodDescriptor (px_nm nm_m223).desc).map (fun d => d.parameters.length) = some 1) ∧ plainName (px_nm nm_m223).cls = true) := ⟨rfl, ⟨nm_o10.1, nm_o10.2.1, nm_d4⟩, nm_o10.2.2⟩
theorem nm_f224 : (nm_mf[224]? = some (2, 0, 9)) ∧ (((px_nm nm_m224).cls ≠ "java/lang/invoke/MethodHandle" ∧ (px_nm nm_m224).cls ≠ "java/lang/invoke/VarHandle" ∧ (parseMethodDescriptor (px_nm nm_m224).desc).map (fun d => d.parameters.length) = some 0) ∧ plainName (px_nm nm_m224).cls = true) := ⟨rfl, ⟨nm_o10.1, nm_o10.2.1, nm_d0⟩, nm_o10.2.2⟩
theorem nm_f225 : (nm_mf[225]? = some (1, 1, 9)) ∧ (((px_nm nm_m225).cls ≠ "java/lang/invoke/MethodHandle" ∧ (px_nm nm_m225).cls ≠ "java/lang/invoke/VarHandle" ∧ (parseMethodDescriptor (px_nm nm_m225).desc).map (fun d => d.parameters.length) = some 1) ∧ plainName (px_nm nm_m225).cls = true) := ⟨rfl, ⟨nm_o10.1, nm_o10.2.1, nm_d21⟩, nm_o10.2.2⟩
end
section
theorem nm_CE_X : ∀ q ∈ nm_CE, nm_w q ∈ nm_EXT := fun q h => List.mem_filter.mpr ⟨nm_CE_in q h, nm_w_X q h⟩
theorem nm_C0_k : ∀ q ∈ nm_C0, q.1 ≠ 20 ∧ q.1 ≠ 21 := by decide +kernel
theorem nm_C0_A : ∀ q ∈ nm_C0, nm_w q ∈ nm_ALL := fun q h => List.mem_filter.mpr ⟨nm_C0_in q h, nm_w_good q (nm_C0_k q h)⟩
theorem nm_C1_k : ∀ q ∈ nm_C1, q.1 ≠ 20 ∧ q.1 ≠ 21 := by decide +kernel
theorem nm_C1_A : ∀ q ∈ nm_C1, nm_w q ∈ nm_ALL := fun q h => List.mem_filter.mpr ⟨nm_C1_in q h, nm_w_good q (nm_C1_k q h)⟩
theorem nm_C2_k : ∀ q ∈ nm_C2, q.1 ≠ 20 ∧ q.1 ≠ 21 := by decide +kernel
theorem nm_C2_A : ∀ q ∈ nm_C2, nm_w q ∈ nm_ALL := fun q h => List.mem_filter.mpr ⟨nm_C2_in q h, nm_w_good q (nm_C2_k q h)⟩
theorem nm_C3_k : ∀ q ∈ nm_C3, q.1 ≠ 20 ∧ q.1 ≠ 21 := by decide +kernel
theorem nm_C3_A : ∀ q ∈ nm_C3, nm_w q ∈ nm_ALL := fun q h => List.mem_filter.mpr ⟨nm_C3_in q h, nm_w_good q (nm_C3_k q h)⟩
theorem nm_C4_k : ∀ q ∈ nm_C4, q.1 ≠ 20 ∧ q.1 ≠ 21 := by decide +kernel
theorem nm_C4_A : ∀ q ∈ nm_C4, nm_w q ∈ nm_ALL := fun q h => List.mem_filter.mpr ⟨nm_C4_in q h, nm_w_good q (nm_C4_k q h)⟩
theorem nm_C5_k : ∀ q ∈ nm_C5, q.1 ≠ 20 ∧ q.1 ≠ 21 := by decide +kernel
theorem nm_C5_A : ∀ q ∈ nm_C5, nm_w q ∈ nm_ALL := fun q h => List.mem_filter.mpr ⟨nm_C5_in q h, nm_w_good q (nm_C5_k q h)⟩
theorem nm_C6_k : ∀ q ∈ nm_C6, q.1 ≠ 20 ∧ q.1 ≠ 21 := by decide +kernel
theorem nm_C6_A : ∀ q ∈ nm_C6, nm_w q ∈ nm_ALL := fun q h => List.mem_filter.mpr ⟨nm_C6_in q h, nm_w_good q (nm_C6_k q h)⟩
theorem nm_C7_k : ∀ q ∈ nm_C7, q.1 ≠ 20 ∧ q.1 ≠ 21 := by decide +kernel
theorem nm_C7_A : ∀ q ∈ nm_C7, nm_w q ∈ nm_ALL := fun q h => List.mem_filter.mpr ⟨nm_C7_in q h, nm_w_good q (nm_C7_k q h)⟩
theorem nm_C8_k : ∀ q ∈ nm_C8, q.1 ≠ 20 ∧ q.1 ≠ 21 := by decide +kernel
theorem nm_C8_A : ∀ q ∈ nm_C8, nm_w q ∈ nm_ALL := fun q h => List.mem_filter.mpr ⟨nm_C8_in q h, nm_w_good q (nm_C8_k q h)⟩
theorem nm_C9_k : ∀ q ∈ nm_C9, q.1 ≠ 20 ∧ q.1 ≠ 21 := by decide +kernel
theorem nm_C9_A : ∀ q ∈ nm_C9, nm_w q ∈ nm_ALL := fun q h => List.mem_filter.mpr ⟨nm_C9_in q h, nm_w_good q (nm_C9_k q h)⟩
theorem nm_C10_k : ∀ q ∈ nm_C10, q.1 ≠ 20 ∧ q.1 ≠ 21 := by decide +kernel
theorem nm_C10_A : ∀ q ∈ nm_C10, nm_w q ∈ nm_ALL := fun q h => List.mem_filter.mpr ⟨nm_C10_in q h, nm_w_good q (nm_C10_k q h)⟩
theorem nm_C11_k : ∀ q ∈ nm_C11, q.1 ≠ 20 ∧ q.1 ≠ 21 := by decide +kernel
theorem nm_C11_A : ∀ q ∈ nm_C11, nm_w q ∈ nm_ALL := fun q h => List.mem_filter.mpr ⟨nm_C11_in q h, nm_w_good q (nm_C11_k q h)⟩
abbrev nm_Wd : px_M → Prop := px_Wd nm_ow nm_cl nm_T nm_P nm_ALL nm_EXT "NamesInBags" nm_mf
abbrev nm_Mq (q : px_M × Nat × Nat × Nat) : Prop :=
    ((px_nm q.1).cls ≠ "java/lang/invoke/MethodHandle" ∧ (px_nm q.1).cls ≠ "java/lang/invoke/VarHandle" ∧ (parseMethodDescriptor (px_nm q.1).desc).map (fun d => d.parameters.length) = some q.2.2.1) ∧
    (q.2.1 = 1 → ∀ (C : String) (F : u_T) (N9 : Nat), nm_cl[q.2.2.2]? = some (C, F, N9) → C = (px_nm q.1).cls) ∧ (q.2.1 = 2 → (px_nm q.1).name = "<init>" ∧ px_rt q.1 = none ∧ ∀ (C : String) (F : u_T) (N9 : Nat), nm_cl[q.2.2.2]? = some (C, F, N9) → C = (px_nm q.1).cls)
theorem nm_wd_m0 : nm_Wd nm_m0 := ⟨nm_C0, nm_CE, 0, 2, 0, nm_ok_m0, nm_C0_A, nm_CE_X, rfl, fun _ => ⟨rfl, fun C F N9 h => by cases h; rfl⟩⟩
theorem nm_g0 : nm_Mq (nm_m0, 2, 0, 0) := ⟨nm_f0.2.1, (fun h => absurd h (by decide)), (fun _ => ⟨rfl, rfl, fun C F N9 h => by cases h; rfl⟩)⟩
theorem nm_wd_m1 : nm_Wd nm_m1 := ⟨nm_C0, nm_CE, 0, 0, 0, nm_ok_m1, nm_C0_A, nm_CE_X, rfl, (fun h => absurd h (by decide))⟩
theorem nm_g1 : nm_Mq (nm_m1, 1, 1, 0) := ⟨nm_f1.2.1, (fun _ C F N9 h => by cases h; rfl), (fun h => absurd h (by decide))⟩
theorem nm_wd_m2 : nm_Wd nm_m2 := ⟨nm_C0, nm_CE, 0, 0, 0, nm_ok_m2, nm_C0_A, nm_CE_X, rfl, (fun h => absurd h (by decide))⟩
theorem nm_g2 : nm_Mq (nm_m2, 1, 2, 0) := ⟨nm_f2.2.1, (fun _ C F N9 h => by cases h; rfl), (fun h => absurd h (by decide))⟩
theorem nm_wd_m3 : nm_Wd nm_m3 := ⟨nm_C0, nm_CE, 0, 0, 0, nm_ok_m3, nm_C0_A, nm_CE_X, rfl, (fun h => absurd h (by decide))⟩
theorem nm_g3 : nm_Mq (nm_m3, 1, 2, 0) := ⟨nm_f3.2.1, (fun _ C F N9 h => by cases h; rfl), (fun h => absurd h (by decide))⟩
theorem nm_wd_m4 : nm_Wd nm_m4 := ⟨nm_C0, nm_CE, 0, 0, 0, nm_ok_m4, nm_C0_A, nm_CE_X, rfl, (fun h => absurd h (by decide))⟩
theorem nm_g4 : nm_Mq (nm_m4, 1, 2, 0) := ⟨nm_f4.2.1, (fun _ C F N9 h => by cases h; rfl), (fun h => absurd h (by decide))⟩
theorem nm_wd_m5 : nm_Wd nm_m5 := ⟨nm_C0, nm_CE, 0, 0, 0, nm_ok_m5, nm_C0_A, nm_CE_X, rfl, (fun h => absurd h (by decide))⟩
theorem nm_g5 : nm_Mq (nm_m5, 1, 1, 0) := ⟨nm_f5.2.1, (fun _ C F N9 h => by cases h; rfl), (fun h => absurd h (by decide))⟩
theorem nm_wd_m6 : nm_Wd nm_m6 := ⟨nm_C1, nm_CE, 1, 0, 1, nm_ok_m6, nm_C1_A, nm_CE_X, rfl, (fun h => absurd h (by decide))⟩
theorem nm_g6 : nm_Mq (nm_m6, 1, 1, 1) := ⟨nm_f6.2.1, (fun _ C F N9 h => by cases h; rfl), (fun h => absurd h (by decide))⟩
theorem nm_wd_m7 : nm_Wd nm_m7 := ⟨nm_C1, nm_CE, 1, 0, 1, nm_ok_m7, nm_C1_A, nm_CE_X, rfl, (fun h => absurd h (by decide))⟩
theorem nm_g7 : nm_Mq (nm_m7, 1, 2, 1) := ⟨nm_f7.2.1, (fun _ C F N9 h => by cases h; rfl), (fun h => absurd h (by decide))⟩
theorem nm_wd_m8 : nm_Wd nm_m8 := ⟨nm_C1, nm_CE, 1, 0, 1, nm_ok_m8, nm_C1_A, nm_CE_X, rfl, (fun h => absurd h (by decide))⟩
theorem nm_g8 : nm_Mq (nm_m8, 1, 3, 1) := ⟨nm_f8.2.1, (fun _ C F N9 h => by cases h; rfl), (fun h => absurd h (by decide))⟩
theorem nm_wd_m9 : nm_Wd nm_m9 := ⟨nm_C1, nm_CE, 1, 0, 1, nm_ok_m9, nm_C1_A, nm_CE_X, rfl, (fun h => absurd h (by decide))⟩
theorem nm_g9 : nm_Mq (nm_m9, 1, 1, 1) := ⟨nm_f9.2.1, (fun _ C F N9 h => by cases h; rfl), (fun h => absurd h (by decide))⟩
theorem nm_wd_m10 : nm_Wd nm_m10 := ⟨nm_C0, nm_CE, 0, 0, 0, nm_ok_m10, nm_C0_A, nm_CE_X, rfl, (fun h => absurd h (by decide))⟩
theorem nm_g10 : nm_Mq (nm_m10, 1, 1, 0) := ⟨nm_f10.2.1, (fun _ C F N9 h => by cases h; rfl), (fun h => absurd h (by decide))⟩
theorem nm_wd_m11 : nm_Wd nm_m11 := ⟨nm_C2, nm_CE, 2, 0, 0, nm_ok_m11, nm_C2_A, nm_CE_X, rfl, (fun h => absurd h (by decide))⟩
theorem nm_g11 : nm_Mq (nm_m11, 0, 1, 0) := ⟨nm_f11.2.1, (fun h => absurd h (by decide)), (fun h => absurd h (by decide))⟩
theorem nm_wd_m12 : nm_Wd nm_m12 := ⟨nm_C0, nm_CE, 0, 0, 0, nm_ok_m12, nm_C0_A, nm_CE_X, rfl, (fun h => absurd h (by decide))⟩
theorem nm_g12 : nm_Mq (nm_m12, 1, 1, 0) := ⟨nm_f12.2.1, (fun _ C F N9 h => by cases h; rfl), (fun h => absurd h (by decide))⟩
theorem nm_wd_m13 : nm_Wd nm_m13 := ⟨nm_C0, nm_CE, 0, 0, 0, nm_ok_m13, nm_C0_A, nm_CE_X, rfl, (fun h => absurd h (by decide))⟩
theorem nm_g13 : nm_Mq (nm_m13, 1, 2, 0) := ⟨nm_f13.2.1, (fun _ C F N9 h => by cases h; rfl), (fun h => absurd h (by decide))⟩
theorem nm_wd_m14 : nm_Wd nm_m14 := ⟨nm_C0, nm_CE, 0, 0, 0, nm_ok_m14, nm_C0_A, nm_CE_X, rfl, (fun h => absurd h (by decide))⟩
theorem nm_g14 : nm_Mq (nm_m14, 1, 1, 0) := ⟨nm_f14.2.1, (fun _ C F N9 h => by cases h; rfl), (fun h => absurd h (by decide))⟩
theorem nm_wd_m15 : nm_Wd nm_m15 := ⟨nm_C3, nm_CE, 3, 2, 3, nm_ok_m15, nm_C3_A, nm_CE_X, rfl, fun _ => ⟨rfl, fun C F N9 h => by cases h; rfl⟩⟩
theorem nm_g15 : nm_Mq (nm_m15, 2, 0, 3) := ⟨nm_f15.2.1, (fun h => absurd h (by decide)), (fun _ => ⟨rfl, rfl, fun C F N9 h => by cases h; rfl⟩)⟩
theorem nm_wd_m16 : nm_Wd nm_m16 := ⟨nm_C1, nm_CE, 1, 2, 1, nm_ok_m16, nm_C1_A, nm_CE_X, rfl, fun _ => ⟨rfl, fun C F N9 h => by cases h; rfl⟩⟩
theorem nm_g16 : nm_Mq (nm_m16, 2, 1, 1) := ⟨nm_f16.2.1, (fun h => absurd h (by decide)), (fun _ => ⟨rfl, rfl, fun C F N9 h => by cases h; rfl⟩)⟩
theorem nm_wd_m17 : nm_Wd nm_m17 := ⟨nm_C1, nm_CE, 1, 0, 1, nm_ok_m17, nm_C1_A, nm_CE_X, rfl, (fun h => absurd h (by decide))⟩
theorem nm_g17 : nm_Mq (nm_m17, 1, 4, 1) := ⟨nm_f17.2.1, (fun _ C F N9 h => by cases h; rfl), (fun h => absurd h (by decide))⟩
theorem nm_wd_m18 : nm_Wd nm_m18 := ⟨nm_C4, nm_CE, 4, 0, 6, nm_ok_m18, nm_C4_A, nm_CE_X, rfl, (fun h => absurd h (by decide))⟩
theorem nm_g18 : nm_Mq (nm_m18, 1, 1, 6) := ⟨nm_f18.2.1, (fun _ C F N9 h => by cases h; rfl), (fun h => absurd h (by decide))⟩
theorem nm_wd_m19 : nm_Wd nm_m19 := ⟨nm_C4, nm_CE, 4, 0, 6, nm_ok_m19, nm_C4_A, nm_CE_X, rfl, (fun h => absurd h (by decide))⟩
theorem nm_g19 : nm_Mq (nm_m19, 1, 1, 6) := ⟨nm_f19.2.1, (fun _ C F N9 h => by cases h; rfl), (fun h => absurd h (by decide))⟩
theorem nm_wd_m20 : nm_Wd nm_m20 := ⟨nm_C4, nm_CE, 4, 0, 6, nm_ok_m20, nm_C4_A, nm_CE_X, rfl, (fun h => absurd h (by decide))⟩
theorem nm_g20 : nm_Mq (nm_m20, 1, 1, 6) := ⟨nm_f20.2.1, (fun _ C F N9 h => by cases h; rfl), (fun h => absurd h (by decide))⟩
theorem nm_wd_m21 : nm_Wd nm_m21 := ⟨nm_C4, nm_CE, 4, 0, 6, nm_ok_m21, nm_C4_A, nm_CE_X, rfl, (fun h => absurd h (by decide))⟩
theorem nm_g21 : nm_Mq (nm_m21, 1, 1, 6) := ⟨nm_f21.2.1, (fun _ C F N9 h => by cases h; rfl), (fun h => absurd h (by decide))⟩
theorem nm_wd_m22 : nm_Wd nm_m22 := ⟨nm_C4, nm_CE, 4, 0, 6, nm_ok_m22, nm_C4_A, nm_CE_X, rfl, (fun h => absurd h (by decide))⟩
theorem nm_g22 : nm_Mq (nm_m22, 1, 1, 6) := ⟨nm_f22.2.1, (fun _ C F N9 h => by cases h; rfl), (fun h => absurd h (by decide))⟩
theorem nm_wd_m23 : nm_Wd nm_m23 := ⟨nm_C1, nm_CE, 1, 0, 1, nm_ok_m23, nm_C1_A, nm_CE_X, rfl, (fun h => absurd h (by decide))⟩
theorem nm_g23 : nm_Mq (nm_m23, 1, 1, 1) := ⟨nm_f23.2.1, (fun _ C F N9 h => by cases h; rfl), (fun h => absurd h (by decide))⟩
theorem nm_wd_m24 : nm_Wd nm_m24 := ⟨nm_C1, nm_CE, 1, 0, 1, nm_ok_m24, nm_C1_A, nm_CE_X, rfl, (fun h => absurd h (by decide))⟩
theorem nm_g24 : nm_Mq (nm_m24, 1, 2, 1) := ⟨nm_f24.2.1, (fun _ C F N9 h => by cases h; rfl), (fun h => absurd h (by decide))⟩
theorem nm_wd_m25 : nm_Wd nm_m25 := ⟨nm_C1, nm_CE, 1, 0, 1, nm_ok_m25, nm_C1_A, nm_CE_X, rfl, (fun h => absurd h (by decide))⟩
theorem nm_g25 : nm_Mq (nm_m25, 1, 3, 1) := ⟨nm_f25.2.1, (fun _ C F N9 h => by cases h; rfl), (fun h => absurd h (by decide))⟩
theorem nm_wd_m26 : nm_Wd nm_m26 := ⟨nm_C5, nm_CE, 5, 2, 2, nm_ok_m26, nm_C5_A, nm_CE_X, rfl, fun _ => ⟨rfl, fun C F N9 h => by cases h; rfl⟩⟩
theorem nm_g26 : nm_Mq (nm_m26, 2, 0, 2) := ⟨nm_f26.2.1, (fun h => absurd h (by decide)), (fun _ => ⟨rfl, rfl, fun C F N9 h => by cases h; rfl⟩)⟩
theorem nm_wd_m27 : nm_Wd nm_m27 := ⟨nm_C5, nm_CE, 5, 0, 2, nm_ok_m27, nm_C5_A, nm_CE_X, rfl, (fun h => absurd h (by decide))⟩
theorem nm_g27 : nm_Mq (nm_m27, 1, 0, 2) := ⟨nm_f27.2.1, (fun _ C F N9 h => by cases h; rfl), (fun h => absurd h (by decide))⟩
theorem nm_wd_m28 : nm_Wd nm_m28 := ⟨nm_C5, nm_CE, 5, 0, 2, nm_ok_m28, nm_C5_A, nm_CE_X, rfl, (fun h => absurd h (by decide))⟩
theorem nm_g28 : nm_Mq (nm_m28, 1, 1, 2) := ⟨nm_f28.2.1, (fun _ C F N9 h => by cases h; rfl), (fun h => absurd h (by decide))⟩
theorem nm_wd_m29 : nm_Wd nm_m29 := ⟨nm_C5, nm_CE, 5, 0, 2, nm_ok_m29, nm_C5_A, nm_CE_X, rfl, (fun h => absurd h (by decide))⟩
theorem nm_g29 : nm_Mq (nm_m29, 1, 1, 2) := ⟨nm_f29.2.1, (fun _ C F N9 h => by cases h; rfl), (fun h => absurd h (by decide))⟩
theorem nm_wd_m30 : nm_Wd nm_m30 := ⟨nm_C3, nm_CE, 3, 0, 3, nm_ok_m30, nm_C3_A, nm_CE_X, rfl, (fun h => absurd h (by decide))⟩
theorem nm_g30 : nm_Mq (nm_m30, 1, 1, 3) := ⟨nm_f30.2.1, (fun _ C F N9 h => by cases h; rfl), (fun h => absurd h (by decide))⟩
theorem nm_wd_m31 : nm_Wd nm_m31 := ⟨nm_C6, nm_CE, 6, 2, 4, nm_ok_m31, nm_C6_A, nm_CE_X, rfl, fun _ => ⟨rfl, fun C F N9 h => by cases h; rfl⟩⟩
theorem nm_g31 : nm_Mq (nm_m31, 2, 0, 4) := ⟨nm_f31.2.1, (fun h => absurd h (by decide)), (fun _ => ⟨rfl, rfl, fun C F N9 h => by cases h; rfl⟩)⟩
theorem nm_wd_m32 : nm_Wd nm_m32 := ⟨nm_C6, nm_CE, 6, 0, 4, nm_ok_m32, nm_C6_A, nm_CE_X, rfl, (fun h => absurd h (by decide))⟩
theorem nm_g32 : nm_Mq (nm_m32, 0, 2, 4) := ⟨nm_f32.2.1, (fun h => absurd h (by decide)), (fun h => absurd h (by decide))⟩
theorem nm_wd_m33 : nm_Wd nm_m33 := ⟨nm_C6, nm_CE, 6, 0, 4, nm_ok_m33, nm_C6_A, nm_CE_X, rfl, (fun h => absurd h (by decide))⟩
theorem nm_g33 : nm_Mq (nm_m33, 1, 0, 4) := ⟨nm_f33.2.1, (fun _ C F N9 h => by cases h; rfl), (fun h => absurd h (by decide))⟩
theorem nm_wd_m34 : nm_Wd nm_m34 := ⟨nm_C6, nm_CE, 6, 0, 4, nm_ok_m34, nm_C6_A, nm_CE_X, rfl, (fun h => absurd h (by decide))⟩
theorem nm_g34 : nm_Mq (nm_m34, 1, 3, 4) := ⟨nm_f34.2.1, (fun _ C F N9 h => by cases h; rfl), (fun h => absurd h (by decide))⟩
theorem nm_wd_m35 : nm_Wd nm_m35 := ⟨nm_C6, nm_CE, 6, 0, 4, nm_ok_m35, nm_C6_A, nm_CE_X, rfl, (fun h => absurd h (by decide))⟩
theorem nm_g35 : nm_Mq (nm_m35, 1, 1, 4) := ⟨nm_f35.2.1, (fun _ C F N9 h => by cases h; rfl), (fun h => absurd h (by decide))⟩
theorem nm_wd_m36 : nm_Wd nm_m36 := ⟨nm_C7, nm_CE, 7, 2, 5, nm_ok_m36, nm_C7_A, nm_CE_X, rfl, fun _ => ⟨rfl, fun C F N9 h => by cases h; rfl⟩⟩
theorem nm_g36 : nm_Mq (nm_m36, 2, 0, 5) := ⟨nm_f36.2.1, (fun h => absurd h (by decide)), (fun _ => ⟨rfl, rfl, fun C F N9 h => by cases h; rfl⟩)⟩
theorem nm_wd_m37 : nm_Wd nm_m37 := ⟨nm_C7, nm_CE, 7, 0, 5, nm_ok_m37, nm_C7_A, nm_CE_X, rfl, (fun h => absurd h (by decide))⟩
theorem nm_g37 : nm_Mq (nm_m37, 1, 1, 5) := ⟨nm_f37.2.1, (fun _ C F N9 h => by cases h; rfl), (fun h => absurd h (by decide))⟩
theorem nm_wd_m38 : nm_Wd nm_m38 := ⟨nm_C7, nm_CE, 7, 0, 5, nm_ok_m38, nm_C7_A, nm_CE_X, rfl, (fun h => absurd h (by decide))⟩
theorem nm_g38 : nm_Mq (nm_m38, 1, 1, 5) := ⟨nm_f38.2.1, (fun _ C F N9 h => by cases h; rfl), (fun h => absurd h (by decide))⟩
theorem nm_wd_m39 : nm_Wd nm_m39 := ⟨nm_C7, nm_CE, 7, 0, 5, nm_ok_m39, nm_C7_A, nm_CE_X, rfl, (fun h => absurd h (by decide))⟩
theorem nm_g39 : nm_Mq (nm_m39, 0, 2, 5) := ⟨nm_f39.2.1, (fun h => absurd h (by decide)), (fun h => absurd h (by decide))⟩
theorem nm_wd_m40 : nm_Wd nm_m40 := ⟨nm_C7, nm_CE, 7, 0, 5, nm_ok_m40, nm_C7_A, nm_CE_X, rfl, (fun h => absurd h (by decide))⟩
theorem nm_g40 : nm_Mq (nm_m40, 1, 0, 5) := ⟨nm_f40.2.1, (fun _ C F N9 h => by cases h; rfl), (fun h => absurd h (by decide))⟩
theorem nm_wd_m41 : nm_Wd nm_m41 := ⟨nm_C4, nm_CE, 4, 2, 6, nm_ok_m41, nm_C4_A, nm_CE_X, rfl, fun _ => ⟨rfl, fun C F N9 h => by cases h; rfl⟩⟩
theorem nm_g41 : nm_Mq (nm_m41, 2, 0, 6) := ⟨nm_f41.2.1, (fun h => absurd h (by decide)), (fun _ => ⟨rfl, rfl, fun C F N9 h => by cases h; rfl⟩)⟩
theorem nm_wd_m42 : nm_Wd nm_m42 := ⟨nm_C4, nm_CE, 4, 0, 6, nm_ok_m42, nm_C4_A, nm_CE_X, rfl, (fun h => absurd h (by decide))⟩
theorem nm_g42 : nm_Mq (nm_m42, 1, 1, 6) := ⟨nm_f42.2.1, (fun _ C F N9 h => by cases h; rfl), (fun h => absurd h (by decide))⟩
theorem nm_wd_m43 : nm_Wd nm_m43 := ⟨nm_C4, nm_CE, 4, 0, 6, nm_ok_m43, nm_C4_A, nm_CE_X, rfl, (fun h => absurd h (by decide))⟩
theorem nm_g43 : nm_Mq (nm_m43, 1, 3, 6) := ⟨nm_f43.2.1, (fun _ C F N9 h => by cases h; rfl), (fun h => absurd h (by decide))⟩
theorem nm_wd_m44 : nm_Wd nm_m44 := ⟨nm_C4, nm_CE, 4, 0, 6, nm_ok_m44, nm_C4_A, nm_CE_X, rfl, (fun h => absurd h (by decide))⟩
theorem nm_g44 : nm_Mq (nm_m44, 1, 0, 6) := ⟨nm_f44.2.1, (fun _ C F N9 h => by cases h; rfl), (fun h => absurd h (by decide))⟩
theorem nm_wd_m45 : nm_Wd nm_m45 := ⟨nm_C4, nm_CE, 4, 0, 6, nm_ok_m45, nm_C4_A, nm_CE_X, rfl, (fun h => absurd h (by decide))⟩
theorem nm_g45 : nm_Mq (nm_m45, 1, 0, 6) := ⟨nm_f45.2.1, (fun _ C F N9 h => by cases h; rfl), (fun h => absurd h (by decide))⟩
theorem nm_wd_m46 : nm_Wd nm_m46 := ⟨nm_C4, nm_CE, 4, 0, 6, nm_ok_m46, nm_C4_A, nm_CE_X, rfl, (fun h => absurd h (by decide))⟩
theorem nm_g46 : nm_Mq (nm_m46, 1, 1, 6) := ⟨nm_f46.2.1, (fun _ C F N9 h => by cases h; rfl), (fun h => absurd h (by decide))⟩
theorem nm_wd_m47 : nm_Wd nm_m47 := ⟨nm_C4, nm_CE, 4, 0, 6, nm_ok_m47, nm_C4_A, nm_CE_X, rfl, (fun h => absurd h (by decide))⟩
theorem nm_g47 : nm_Mq (nm_m47, 1, 1, 6) := ⟨nm_f47.2.1, (fun _ C F N9 h => by cases h; rfl), (fun h => absurd h (by decide))⟩
theorem nm_wd_m48 : nm_Wd nm_m48 := ⟨nm_C8, nm_CE, 8, 2, 7, nm_ok_m48, nm_C8_A, nm_CE_X, rfl, fun _ => ⟨rfl, fun C F N9 h => by cases h; rfl⟩⟩
theorem nm_g48 : nm_Mq (nm_m48, 2, 0, 7) := ⟨nm_f48.2.1, (fun h => absurd h (by decide)), (fun _ => ⟨rfl, rfl, fun C F N9 h => by cases h; rfl⟩)⟩
theorem nm_wd_m49 : nm_Wd nm_m49 := ⟨nm_C8, nm_CE, 8, 0, 7, nm_ok_m49, nm_C8_A, nm_CE_X, rfl, (fun h => absurd h (by decide))⟩
theorem nm_g49 : nm_Mq (nm_m49, 1, 1, 7) := ⟨nm_f49.2.1, (fun _ C F N9 h => by cases h; rfl), (fun h => absurd h (by decide))⟩
theorem nm_wd_m50 : nm_Wd nm_m50 := ⟨nm_C8, nm_CE, 8, 0, 7, nm_ok_m50, nm_C8_A, nm_CE_X, rfl, (fun h => absurd h (by decide))⟩
theorem nm_g50 : nm_Mq (nm_m50, 1, 1, 7) := ⟨nm_f50.2.1, (fun _ C F N9 h => by cases h; rfl), (fun h => absurd h (by decide))⟩
theorem nm_wd_m51 : nm_Wd nm_m51 := ⟨nm_C8, nm_CE, 8, 0, 7, nm_ok_m51, nm_C8_A, nm_CE_X, rfl, (fun h => absurd h (by decide))⟩
theorem nm_g51 : nm_Mq (nm_m51, 1, 2, 7) := ⟨nm_f51.2.1, (fun _ C F N9 h => by cases h; rfl), (fun h => absurd h (by decide))⟩
theorem nm_wd_m52 : nm_Wd nm_m52 := ⟨nm_C8, nm_CE, 8, 0, 7, nm_ok_m52, nm_C8_A, nm_CE_X, rfl, (fun h => absurd h (by decide))⟩
theorem nm_g52 : nm_Mq (nm_m52, 1, 1, 7) := ⟨nm_f52.2.1, (fun _ C F N9 h => by cases h; rfl), (fun h => absurd h (by decide))⟩
theorem nm_wd_m53 : nm_Wd nm_m53 := ⟨nm_C8, nm_CE, 8, 0, 7, nm_ok_m53, nm_C8_A, nm_CE_X, rfl, (fun h => absurd h (by decide))⟩
theorem nm_g53 : nm_Mq (nm_m53, 1, 2, 7) := ⟨nm_f53.2.1, (fun _ C F N9 h => by cases h; rfl), (fun h => absurd h (by decide))⟩
theorem nm_wd_m54 : nm_Wd nm_m54 := ⟨nm_C8, nm_CE, 8, 0, 7, nm_ok_m54, nm_C8_A, nm_CE_X, rfl, (fun h => absurd h (by decide))⟩
theorem nm_g54 : nm_Mq (nm_m54, 1, 1, 7) := ⟨nm_f54.2.1, (fun _ C F N9 h => by cases h; rfl), (fun h => absurd h (by decide))⟩
theorem nm_wd_m55 : nm_Wd nm_m55 := ⟨nm_C8, nm_CE, 8, 0, 7, nm_ok_m55, nm_C8_A, nm_CE_X, rfl, (fun h => absurd h (by decide))⟩
theorem nm_g55 : nm_Mq (nm_m55, 1, 0, 7) := ⟨nm_f55.2.1, (fun _ C F N9 h => by cases h; rfl), (fun h => absurd h (by decide))⟩
theorem nm_wd_m56 : nm_Wd nm_m56 := ⟨nm_C8, nm_CE, 8, 0, 7, nm_ok_m56, nm_C8_A, nm_CE_X, rfl, (fun h => absurd h (by decide))⟩
theorem nm_g56 : nm_Mq (nm_m56, 1, 1, 7) := ⟨nm_f56.2.1, (fun _ C F N9 h => by cases h; rfl), (fun h => absurd h (by decide))⟩
theorem nm_wd_m57 : nm_Wd nm_m57 := ⟨nm_C9, nm_CE, 9, 0, 8, nm_ok_m57, nm_C9_A, nm_CE_X, rfl, (fun h => absurd h (by decide))⟩
theorem nm_g57 : nm_Mq (nm_m57, 0, 2, 8) := ⟨nm_f57.2.1, (fun h => absurd h (by decide)), (fun h => absurd h (by decide))⟩
theorem nm_wd_m58 : nm_Wd nm_m58 := ⟨nm_C8, nm_CE, 8, 0, 7, nm_ok_m58, nm_C8_A, nm_CE_X, rfl, (fun h => absurd h (by decide))⟩
theorem nm_g58 : nm_Mq (nm_m58, 1, 2, 7) := ⟨nm_f58.2.1, (fun _ C F N9 h => by cases h; rfl), (fun h => absurd h (by decide))⟩
theorem nm_wd_m59 : nm_Wd nm_m59 := ⟨nm_C8, nm_CE, 8, 0, 7, nm_ok_m59, nm_C8_A, nm_CE_X, rfl, (fun h => absurd h (by decide))⟩
theorem nm_g59 : nm_Mq (nm_m59, 1, 1, 7) := ⟨nm_f59.2.1, (fun _ C F N9 h => by cases h; rfl), (fun h => absurd h (by decide))⟩
theorem nm_wd_m60 : nm_Wd nm_m60 := ⟨nm_C8, nm_CE, 8, 0, 7, nm_ok_m60, nm_C8_A, nm_CE_X, rfl, (fun h => absurd h (by decide))⟩
theorem nm_g60 : nm_Mq (nm_m60, 1, 1, 7) := ⟨nm_f60.2.1, (fun _ C F N9 h => by cases h; rfl), (fun h => absurd h (by decide))⟩
theorem nm_wd_m61 : nm_Wd nm_m61 := ⟨nm_C8, nm_CE, 8, 0, 7, nm_ok_m61, nm_C8_A, nm_CE_X, rfl, (fun h => absurd h (by decide))⟩
theorem nm_g61 : nm_Mq (nm_m61, 1, 1, 7) := ⟨nm_f61.2.1, (fun _ C F N9 h => by cases h; rfl), (fun h => absurd h (by decide))⟩
theorem nm_wd_m62 : nm_Wd nm_m62 := ⟨nm_C8, nm_CE, 8, 0, 7, nm_ok_m62, nm_C8_A, nm_CE_X, rfl, (fun h => absurd h (by decide))⟩
theorem nm_g62 : nm_Mq (nm_m62, 1, 0, 7) := ⟨nm_f62.2.1, (fun _ C F N9 h => by cases h; rfl), (fun h => absurd h (by decide))⟩
theorem nm_wd_m63 : nm_Wd nm_m63 := ⟨nm_C8, nm_CE, 8, 0, 7, nm_ok_m63, nm_C8_A, nm_CE_X, rfl, (fun h => absurd h (by decide))⟩
theorem nm_g63 : nm_Mq (nm_m63, 1, 0, 7) := ⟨nm_f63.2.1, (fun _ C F N9 h => by cases h; rfl), (fun h => absurd h (by decide))⟩
theorem nm_wd_m64 : nm_Wd nm_m64 := ⟨nm_C8, nm_CE, 8, 0, 7, nm_ok_m64, nm_C8_A, nm_CE_X, rfl, (fun h => absurd h (by decide))⟩
theorem nm_g64 : nm_Mq (nm_m64, 1, 1, 7) := ⟨nm_f64.2.1, (fun _ C F N9 h => by cases h; rfl), (fun h => absurd h (by decide))⟩
theorem nm_wd_m65 : nm_Wd nm_m65 := ⟨nm_C9, nm_CE, 9, 2, 8, nm_ok_m65, nm_C9_A, nm_CE_X, rfl, fun _ => ⟨rfl, fun C F N9 h => by cases h; rfl⟩⟩
theorem nm_g65 : nm_Mq (nm_m65, 2, 0, 8) := ⟨nm_f65.2.1, (fun h => absurd h (by decide)), (fun _ => ⟨rfl, rfl, fun C F N9 h => by cases h; rfl⟩)⟩
theorem nm_wd_m66 : nm_Wd nm_m66 := ⟨nm_C9, nm_CE, 9, 0, 8, nm_ok_m66, nm_C9_A, nm_CE_X, rfl, (fun h => absurd h (by decide))⟩
theorem nm_g66 : nm_Mq (nm_m66, 1, 1, 8) := ⟨nm_f66.2.1, (fun _ C F N9 h => by cases h; rfl), (fun h => absurd h (by decide))⟩
theorem nm_wd_m67 : nm_Wd nm_m67 := ⟨nm_C9, nm_CE, 9, 0, 8, nm_ok_m67, nm_C9_A, nm_CE_X, rfl, (fun h => absurd h (by decide))⟩
theorem nm_g67 : nm_Mq (nm_m67, 0, 1, 8) := ⟨nm_f67.2.1, (fun h => absurd h (by decide)), (fun h => absurd h (by decide))⟩
theorem nm_wd_m68 : nm_Wd nm_m68 := ⟨nm_C9, nm_CE, 9, 0, 8, nm_ok_m68, nm_C9_A, nm_CE_X, rfl, (fun h => absurd h (by decide))⟩
theorem nm_g68 : nm_Mq (nm_m68, 1, 2, 8) := ⟨nm_f68.2.1, (fun _ C F N9 h => by cases h; rfl), (fun h => absurd h (by decide))⟩
theorem nm_wd_m69 : nm_Wd nm_m69 := ⟨nm_C9, nm_CE, 9, 0, 8, nm_ok_m69, nm_C9_A, nm_CE_X, rfl, (fun h => absurd h (by decide))⟩
theorem nm_g69 : nm_Mq (nm_m69, 1, 3, 8) := ⟨nm_f69.2.1, (fun _ C F N9 h => by cases h; rfl), (fun h => absurd h (by decide))⟩
theorem nm_wd_m70 : nm_Wd nm_m70 := ⟨nm_C9, nm_CE, 9, 0, 8, nm_ok_m70, nm_C9_A, nm_CE_X, rfl, (fun h => absurd h (by decide))⟩
theorem nm_g70 : nm_Mq (nm_m70, 1, 2, 8) := ⟨nm_f70.2.1, (fun _ C F N9 h => by cases h; rfl), (fun h => absurd h (by decide))⟩
theorem nm_wd_m71 : nm_Wd nm_m71 := ⟨nm_C9, nm_CE, 9, 0, 8, nm_ok_m71, nm_C9_A, nm_CE_X, rfl, (fun h => absurd h (by decide))⟩
theorem nm_g71 : nm_Mq (nm_m71, 0, 2, 8) := ⟨nm_f71.2.1, (fun h => absurd h (by decide)), (fun h => absurd h (by decide))⟩
theorem nm_wd_m72 : nm_Wd nm_m72 := ⟨nm_C9, nm_CE, 9, 0, 8, nm_ok_m72, nm_C9_A, nm_CE_X, rfl, (fun h => absurd h (by decide))⟩
theorem nm_g72 : nm_Mq (nm_m72, 1, 4, 8) := ⟨nm_f72.2.1, (fun _ C F N9 h => by cases h; rfl), (fun h => absurd h (by decide))⟩
theorem nm_wd_m73 : nm_Wd nm_m73 := ⟨nm_C9, nm_CE, 9, 0, 8, nm_ok_m73, nm_C9_A, nm_CE_X, rfl, (fun h => absurd h (by decide))⟩
theorem nm_g73 : nm_Mq (nm_m73, 0, 1, 8) := ⟨nm_f73.2.1, (fun h => absurd h (by decide)), (fun h => absurd h (by decide))⟩
theorem nm_wd_m74 : nm_Wd nm_m74 := ⟨nm_C9, nm_CE, 9, 0, 8, nm_ok_m74, nm_C9_A, nm_CE_X, rfl, (fun h => absurd h (by decide))⟩
theorem nm_g74 : nm_Mq (nm_m74, 1, 2, 8) := ⟨nm_f74.2.1, (fun _ C F N9 h => by cases h; rfl), (fun h => absurd h (by decide))⟩
theorem nm_wd_m75 : nm_Wd nm_m75 := ⟨nm_C9, nm_CE, 9, 0, 8, nm_ok_m75, nm_C9_A, nm_CE_X, rfl, (fun h => absurd h (by decide))⟩
theorem nm_g75 : nm_Mq (nm_m75, 1, 2, 8) := ⟨nm_f75.2.1, (fun _ C F N9 h => by cases h; rfl), (fun h => absurd h (by decide))⟩
theorem nm_wd_m76 : nm_Wd nm_m76 := ⟨nm_C9, nm_CE, 9, 0, 8, nm_ok_m76, nm_C9_A, nm_CE_X, rfl, (fun h => absurd h (by decide))⟩
theorem nm_g76 : nm_Mq (nm_m76, 1, 3, 8) := ⟨nm_f76.2.1, (fun _ C F N9 h => by cases h; rfl), (fun h => absurd h (by decide))⟩
theorem nm_wd_m77 : nm_Wd nm_m77 := ⟨nm_C9, nm_CE, 9, 0, 8, nm_ok_m77, nm_C9_A, nm_CE_X, rfl, (fun h => absurd h (by decide))⟩
theorem nm_g77 : nm_Mq (nm_m77, 1, 1, 8) := ⟨nm_f77.2.1, (fun _ C F N9 h => by cases h; rfl), (fun h => absurd h (by decide))⟩
theorem nm_wd_m78 : nm_Wd nm_m78 := ⟨nm_C9, nm_CE, 9, 0, 8, nm_ok_m78, nm_C9_A, nm_CE_X, rfl, (fun h => absurd h (by decide))⟩
theorem nm_g78 : nm_Mq (nm_m78, 1, 1, 8) := ⟨nm_f78.2.1, (fun _ C F N9 h => by cases h; rfl), (fun h => absurd h (by decide))⟩
theorem nm_wd_m79 : nm_Wd nm_m79 := ⟨nm_C9, nm_CE, 9, 0, 8, nm_ok_m79, nm_C9_A, nm_CE_X, rfl, (fun h => absurd h (by decide))⟩
theorem nm_g79 : nm_Mq (nm_m79, 1, 1, 8) := ⟨nm_f79.2.1, (fun _ C F N9 h => by cases h; rfl), (fun h => absurd h (by decide))⟩
theorem nm_wd_m80 : nm_Wd nm_m80 := ⟨nm_C9, nm_CE, 9, 0, 8, nm_ok_m80, nm_C9_A, nm_CE_X, rfl, (fun h => absurd h (by decide))⟩
theorem nm_g80 : nm_Mq (nm_m80, 1, 0, 8) := ⟨nm_f80.2.1, (fun _ C F N9 h => by cases h; rfl), (fun h => absurd h (by decide))⟩
theorem nm_wd_m81 : nm_Wd nm_m81 := ⟨nm_C9, nm_CE, 9, 0, 8, nm_ok_m81, nm_C9_A, nm_CE_X, rfl, (fun h => absurd h (by decide))⟩
theorem nm_g81 : nm_Mq (nm_m81, 1, 1, 8) := ⟨nm_f81.2.1, (fun _ C F N9 h => by cases h; rfl), (fun h => absurd h (by decide))⟩
theorem nm_wd_m82 : nm_Wd nm_m82 := ⟨nm_C9, nm_CE, 9, 0, 8, nm_ok_m82, nm_C9_A, nm_CE_X, rfl, (fun h => absurd h (by decide))⟩
theorem nm_g82 : nm_Mq (nm_m82, 1, 0, 8) := ⟨nm_f82.2.1, (fun _ C F N9 h => by cases h; rfl), (fun h => absurd h (by decide))⟩
theorem nm_wd_m83 : nm_Wd nm_m83 := ⟨nm_C9, nm_CE, 9, 0, 8, nm_ok_m83, nm_C9_A, nm_CE_X, rfl, (fun h => absurd h (by decide))⟩
theorem nm_g83 : nm_Mq (nm_m83, 1, 0, 8) := ⟨nm_f83.2.1, (fun _ C F N9 h => by cases h; rfl), (fun h => absurd h (by decide))⟩
theorem nm_wd_m84 : nm_Wd nm_m84 := ⟨nm_C9, nm_CE, 9, 0, 8, nm_ok_m84, nm_C9_A, nm_CE_X, rfl, (fun h => absurd h (by decide))⟩
theorem nm_g84 : nm_Mq (nm_m84, 1, 1, 8) := ⟨nm_f84.2.1, (fun _ C F N9 h => by cases h; rfl), (fun h => absurd h (by decide))⟩
theorem nm_wd_m85 : nm_Wd nm_m85 := ⟨nm_C9, nm_CE, 9, 0, 8, nm_ok_m85, nm_C9_A, nm_CE_X, rfl, (fun h => absurd h (by decide))⟩
theorem nm_g85 : nm_Mq (nm_m85, 1, 1, 8) := ⟨nm_f85.2.1, (fun _ C F N9 h => by cases h; rfl), (fun h => absurd h (by decide))⟩
theorem nm_wd_m86 : nm_Wd nm_m86 := ⟨nm_C9, nm_CE, 9, 0, 8, nm_ok_m86, nm_C9_A, nm_CE_X, rfl, (fun h => absurd h (by decide))⟩
theorem nm_g86 : nm_Mq (nm_m86, 1, 0, 8) := ⟨nm_f86.2.1, (fun _ C F N9 h => by cases h; rfl), (fun h => absurd h (by decide))⟩
theorem nm_wd_m87 : nm_Wd nm_m87 := ⟨nm_C9, nm_CE, 9, 0, 8, nm_ok_m87, nm_C9_A, nm_CE_X, rfl, (fun h => absurd h (by decide))⟩
theorem nm_g87 : nm_Mq (nm_m87, 0, 2, 8) := ⟨nm_f87.2.1, (fun h => absurd h (by decide)), (fun h => absurd h (by decide))⟩
theorem nm_wd_m88 : nm_Wd nm_m88 := ⟨nm_C9, nm_CE, 9, 0, 8, nm_ok_m88, nm_C9_A, nm_CE_X, rfl, (fun h => absurd h (by decide))⟩
theorem nm_g88 : nm_Mq (nm_m88, 0, 2, 8) := ⟨nm_f88.2.1, (fun h => absurd h (by decide)), (fun h => absurd h (by decide))⟩
theorem nm_wd_m89 : nm_Wd nm_m89 := ⟨nm_C9, nm_CE, 9, 0, 8, nm_ok_m89, nm_C9_A, nm_CE_X, rfl, (fun h => absurd h (by decide))⟩
theorem nm_g89 : nm_Mq (nm_m89, 1, 2, 8) := ⟨nm_f89.2.1, (fun _ C F N9 h => by cases h; rfl), (fun h => absurd h (by decide))⟩
theorem nm_wd_m90 : nm_Wd nm_m90 := ⟨nm_C9, nm_CE, 9, 0, 8, nm_ok_m90, nm_C9_A, nm_CE_X, rfl, (fun h => absurd h (by decide))⟩
theorem nm_g90 : nm_Mq (nm_m90, 1, 2, 8) := ⟨nm_f90.2.1, (fun _ C F N9 h => by cases h; rfl), (fun h => absurd h (by decide))⟩
theorem nm_wd_m91 : nm_Wd nm_m91 := ⟨nm_C9, nm_CE, 9, 0, 8, nm_ok_m91, nm_C9_A, nm_CE_X, rfl, (fun h => absurd h (by decide))⟩
theorem nm_g91 : nm_Mq (nm_m91, 1, 2, 8) := ⟨nm_f91.2.1, (fun _ C F N9 h => by cases h; rfl), (fun h => absurd h (by decide))⟩
theorem nm_wd_m92 : nm_Wd nm_m92 := ⟨nm_C9, nm_CE, 9, 0, 8, nm_ok_m92, nm_C9_A, nm_CE_X, rfl, (fun h => absurd h (by decide))⟩
theorem nm_g92 : nm_Mq (nm_m92, 1, 0, 8) := ⟨nm_f92.2.1, (fun _ C F N9 h => by cases h; rfl), (fun h => absurd h (by decide))⟩
theorem nm_wd_m93 : nm_Wd nm_m93 := ⟨nm_C9, nm_CE, 9, 0, 8, nm_ok_m93, nm_C9_A, nm_CE_X, rfl, (fun h => absurd h (by decide))⟩
theorem nm_g93 : nm_Mq (nm_m93, 1, 2, 8) := ⟨nm_f93.2.1, (fun _ C F N9 h => by cases h; rfl), (fun h => absurd h (by decide))⟩
theorem nm_wd_m94 : nm_Wd nm_m94 := ⟨nm_C9, nm_CE, 9, 0, 8, nm_ok_m94, nm_C9_A, nm_CE_X, rfl, (fun h => absurd h (by decide))⟩
theorem nm_g94 : nm_Mq (nm_m94, 1, 1, 8) := ⟨nm_f94.2.1, (fun _ C F N9 h => by cases h; rfl), (fun h => absurd h (by decide))⟩
theorem nm_wd_m95 : nm_Wd nm_m95 := ⟨nm_C9, nm_CE, 9, 0, 8, nm_ok_m95, nm_C9_A, nm_CE_X, rfl, (fun h => absurd h (by decide))⟩
theorem nm_g95 : nm_Mq (nm_m95, 1, 1, 8) := ⟨nm_f95.2.1, (fun _ C F N9 h => by cases h; rfl), (fun h => absurd h (by decide))⟩
theorem nm_wd_m96 : nm_Wd nm_m96 := ⟨nm_C9, nm_CE, 9, 0, 8, nm_ok_m96, nm_C9_A, nm_CE_X, rfl, (fun h => absurd h (by decide))⟩
theorem nm_g96 : nm_Mq (nm_m96, 1, 3, 8) := ⟨nm_f96.2.1, (fun _ C F N9 h => by cases h; rfl), (fun h => absurd h (by decide))⟩
theorem nm_wd_m97 : nm_Wd nm_m97 := ⟨nm_C9, nm_CE, 9, 0, 8, nm_ok_m97, nm_C9_A, nm_CE_X, rfl, (fun h => absurd h (by decide))⟩
theorem nm_g97 : nm_Mq (nm_m97, 1, 2, 8) := ⟨nm_f97.2.1, (fun _ C F N9 h => by cases h; rfl), (fun h => absurd h (by decide))⟩
theorem nm_wd_m98 : nm_Wd nm_m98 := ⟨nm_C9, nm_CE, 9, 0, 8, nm_ok_m98, nm_C9_A, nm_CE_X, rfl, (fun h => absurd h (by decide))⟩
theorem nm_g98 : nm_Mq (nm_m98, 1, 1, 8) := ⟨nm_f98.2.1, (fun _ C F N9 h => by cases h; rfl), (fun h => absurd h (by decide))⟩
theorem nm_wd_m99 : nm_Wd nm_m99 := ⟨nm_C9, nm_CE, 9, 0, 8, nm_ok_m99, nm_C9_A, nm_CE_X, rfl, (fun h => absurd h (by decide))⟩
theorem nm_g99 : nm_Mq (nm_m99, 1, 1, 8) := ⟨nm_f99.2.1, (fun _ C F N9 h => by cases h; rfl), (fun h => absurd h (by decide))⟩
theorem nm_wd_m100 : nm_Wd nm_m100 := ⟨nm_C9, nm_CE, 9, 0, 8, nm_ok_m100, nm_C9_A, nm_CE_X, rfl, (fun h => absurd h (by decide))⟩
theorem nm_g100 : nm_Mq (nm_m100, 1, 1, 8) := ⟨nm_f100.2.1, (fun _ C F N9 h => by cases h; rfl), (fun h => absurd h (by decide))⟩
theorem nm_wd_m101 : nm_Wd nm_m101 := ⟨nm_C9, nm_CE, 9, 0, 8, nm_ok_m101, nm_C9_A, nm_CE_X, rfl, (fun h => absurd h (by decide))⟩
theorem nm_g101 : nm_Mq (nm_m101, 1, 1, 8) := ⟨nm_f101.2.1, (fun _ C F N9 h => by cases h; rfl), (fun h => absurd h (by decide))⟩
theorem nm_wd_m102 : nm_Wd nm_m102 := ⟨nm_C9, nm_CE, 9, 0, 8, nm_ok_m102, nm_C9_A, nm_CE_X, rfl, (fun h => absurd h (by decide))⟩
theorem nm_g102 : nm_Mq (nm_m102, 1, 2, 8) := ⟨nm_f102.2.1, (fun _ C F N9 h => by cases h; rfl), (fun h => absurd h (by decide))⟩
theorem nm_wd_m103 : nm_Wd nm_m103 := ⟨nm_C9, nm_CE, 9, 0, 8, nm_ok_m103, nm_C9_A, nm_CE_X, rfl, (fun h => absurd h (by decide))⟩
theorem nm_g103 : nm_Mq (nm_m103, 1, 1, 8) := ⟨nm_f103.2.1, (fun _ C F N9 h => by cases h; rfl), (fun h => absurd h (by decide))⟩
theorem nm_wd_m104 : nm_Wd nm_m104 := ⟨nm_C9, nm_CE, 9, 0, 8, nm_ok_m104, nm_C9_A, nm_CE_X, rfl, (fun h => absurd h (by decide))⟩
theorem nm_g104 : nm_Mq (nm_m104, 1, 2, 8) := ⟨nm_f104.2.1, (fun _ C F N9 h => by cases h; rfl), (fun h => absurd h (by decide))⟩
theorem nm_wd_m105 : nm_Wd nm_m105 := ⟨nm_C9, nm_CE, 9, 0, 8, nm_ok_m105, nm_C9_A, nm_CE_X, rfl, (fun h => absurd h (by decide))⟩
theorem nm_g105 : nm_Mq (nm_m105, 1, 2, 8) := ⟨nm_f105.2.1, (fun _ C F N9 h => by cases h; rfl), (fun h => absurd h (by decide))⟩
theorem nm_wd_m106 : nm_Wd nm_m106 := ⟨nm_C9, nm_CE, 9, 0, 8, nm_ok_m106, nm_C9_A, nm_CE_X, rfl, (fun h => absurd h (by decide))⟩
theorem nm_g106 : nm_Mq (nm_m106, 1, 0, 8) := ⟨nm_f106.2.1, (fun _ C F N9 h => by cases h; rfl), (fun h => absurd h (by decide))⟩
theorem nm_wd_m107 : nm_Wd nm_m107 := ⟨nm_C9, nm_CE, 9, 0, 8, nm_ok_m107, nm_C9_A, nm_CE_X, rfl, (fun h => absurd h (by decide))⟩
theorem nm_g107 : nm_Mq (nm_m107, 1, 2, 8) := ⟨nm_f107.2.1, (fun _ C F N9 h => by cases h; rfl), (fun h => absurd h (by decide))⟩
theorem nm_wd_m108 : nm_Wd nm_m108 := ⟨nm_C9, nm_CE, 9, 0, 8, nm_ok_m108, nm_C9_A, nm_CE_X, rfl, (fun h => absurd h (by decide))⟩
theorem nm_g108 : nm_Mq (nm_m108, 0, 1, 8) := ⟨nm_f108.2.1, (fun h => absurd h (by decide)), (fun h => absurd h (by decide))⟩
theorem nm_wd_m109 : nm_Wd nm_m109 := ⟨nm_C9, nm_CE, 9, 0, 8, nm_ok_m109, nm_C9_A, nm_CE_X, rfl, (fun h => absurd h (by decide))⟩
theorem nm_g109 : nm_Mq (nm_m109, 1, 3, 8) := ⟨nm_f109.2.1, (fun _ C F N9 h => by cases h; rfl), (fun h => absurd h (by decide))⟩
theorem nm_wd_m110 : nm_Wd nm_m110 := ⟨nm_C9, nm_CE, 9, 0, 8, nm_ok_m110, nm_C9_A, nm_CE_X, rfl, (fun h => absurd h (by decide))⟩
theorem nm_g110 : nm_Mq (nm_m110, 1, 2, 8) := ⟨nm_f110.2.1, (fun _ C F N9 h => by cases h; rfl), (fun h => absurd h (by decide))⟩
theorem nm_wd_m111 : nm_Wd nm_m111 := ⟨nm_C9, nm_CE, 9, 0, 8, nm_ok_m111, nm_C9_A, nm_CE_X, rfl, (fun h => absurd h (by decide))⟩
theorem nm_g111 : nm_Mq (nm_m111, 1, 3, 8) := ⟨nm_f111.2.1, (fun _ C F N9 h => by cases h; rfl), (fun h => absurd h (by decide))⟩
theorem nm_wd_m112 : nm_Wd nm_m112 := ⟨nm_C9, nm_CE, 9, 0, 8, nm_ok_m112, nm_C9_A, nm_CE_X, rfl, (fun h => absurd h (by decide))⟩
theorem nm_g112 : nm_Mq (nm_m112, 1, 5, 8) := ⟨nm_f112.2.1, (fun _ C F N9 h => by cases h; rfl), (fun h => absurd h (by decide))⟩
theorem nm_wd_m113 : nm_Wd nm_m113 := ⟨nm_C9, nm_CE, 9, 0, 8, nm_ok_m113, nm_C9_A, nm_CE_X, rfl, (fun h => absurd h (by decide))⟩
theorem nm_g113 : nm_Mq (nm_m113, 1, 4, 8) := ⟨nm_f113.2.1, (fun _ C F N9 h => by cases h; rfl), (fun h => absurd h (by decide))⟩
theorem nm_wd_m114 : nm_Wd nm_m114 := ⟨nm_C9, nm_CE, 9, 0, 8, nm_ok_m114, nm_C9_A, nm_CE_X, rfl, (fun h => absurd h (by decide))⟩
theorem nm_g114 : nm_Mq (nm_m114, 1, 4, 8) := ⟨nm_f114.2.1, (fun _ C F N9 h => by cases h; rfl), (fun h => absurd h (by decide))⟩
theorem nm_wd_m115 : nm_Wd nm_m115 := ⟨nm_C9, nm_CE, 9, 0, 8, nm_ok_m115, nm_C9_A, nm_CE_X, rfl, (fun h => absurd h (by decide))⟩
theorem nm_g115 : nm_Mq (nm_m115, 1, 2, 8) := ⟨nm_f115.2.1, (fun _ C F N9 h => by cases h; rfl), (fun h => absurd h (by decide))⟩
theorem nm_wd_m116 : nm_Wd nm_m116 := ⟨nm_C9, nm_CE, 9, 0, 8, nm_ok_m116, nm_C9_A, nm_CE_X, rfl, (fun h => absurd h (by decide))⟩
theorem nm_g116 : nm_Mq (nm_m116, 1, 2, 8) := ⟨nm_f116.2.1, (fun _ C F N9 h => by cases h; rfl), (fun h => absurd h (by decide))⟩
theorem nm_wd_m117 : nm_Wd nm_m117 := ⟨nm_C9, nm_CE, 9, 0, 8, nm_ok_m117, nm_C9_A, nm_CE_X, rfl, (fun h => absurd h (by decide))⟩
theorem nm_g117 : nm_Mq (nm_m117, 1, 1, 8) := ⟨nm_f117.2.1, (fun _ C F N9 h => by cases h; rfl), (fun h => absurd h (by decide))⟩
theorem nm_wd_m118 : nm_Wd nm_m118 := ⟨nm_C9, nm_CE, 9, 0, 8, nm_ok_m118, nm_C9_A, nm_CE_X, rfl, (fun h => absurd h (by decide))⟩
theorem nm_g118 : nm_Mq (nm_m118, 1, 0, 8) := ⟨nm_f118.2.1, (fun _ C F N9 h => by cases h; rfl), (fun h => absurd h (by decide))⟩
theorem nm_wd_m119 : nm_Wd nm_m119 := ⟨nm_C9, nm_CE, 9, 0, 8, nm_ok_m119, nm_C9_A, nm_CE_X, rfl, (fun h => absurd h (by decide))⟩
theorem nm_g119 : nm_Mq (nm_m119, 1, 0, 8) := ⟨nm_f119.2.1, (fun _ C F N9 h => by cases h; rfl), (fun h => absurd h (by decide))⟩
theorem nm_wd_m120 : nm_Wd nm_m120 := ⟨nm_C9, nm_CE, 9, 0, 8, nm_ok_m120, nm_C9_A, nm_CE_X, rfl, (fun h => absurd h (by decide))⟩
theorem nm_g120 : nm_Mq (nm_m120, 1, 2, 8) := ⟨nm_f120.2.1, (fun _ C F N9 h => by cases h; rfl), (fun h => absurd h (by decide))⟩
theorem nm_wd_m121 : nm_Wd nm_m121 := ⟨nm_C9, nm_CE, 9, 0, 8, nm_ok_m121, nm_C9_A, nm_CE_X, rfl, (fun h => absurd h (by decide))⟩
theorem nm_g121 : nm_Mq (nm_m121, 1, 0, 8) := ⟨nm_f121.2.1, (fun _ C F N9 h => by cases h; rfl), (fun h => absurd h (by decide))⟩
theorem nm_wd_m122 : nm_Wd nm_m122 := ⟨nm_C9, nm_CE, 9, 0, 8, nm_ok_m122, nm_C9_A, nm_CE_X, rfl, (fun h => absurd h (by decide))⟩
theorem nm_g122 : nm_Mq (nm_m122, 1, 1, 8) := ⟨nm_f122.2.1, (fun _ C F N9 h => by cases h; rfl), (fun h => absurd h (by decide))⟩
theorem nm_wd_m123 : nm_Wd nm_m123 := ⟨nm_C9, nm_CE, 9, 0, 8, nm_ok_m123, nm_C9_A, nm_CE_X, rfl, (fun h => absurd h (by decide))⟩
theorem nm_g123 : nm_Mq (nm_m123, 1, 1, 8) := ⟨nm_f123.2.1, (fun _ C F N9 h => by cases h; rfl), (fun h => absurd h (by decide))⟩
theorem nm_wd_m124 : nm_Wd nm_m124 := ⟨nm_C9, nm_CE, 9, 0, 8, nm_ok_m124, nm_C9_A, nm_CE_X, rfl, (fun h => absurd h (by decide))⟩
theorem nm_g124 : nm_Mq (nm_m124, 1, 1, 8) := ⟨nm_f124.2.1, (fun _ C F N9 h => by cases h; rfl), (fun h => absurd h (by decide))⟩
theorem nm_wd_m125 : nm_Wd nm_m125 := ⟨nm_C9, nm_CE, 9, 0, 8, nm_ok_m125, nm_C9_A, nm_CE_X, rfl, (fun h => absurd h (by decide))⟩
theorem nm_g125 : nm_Mq (nm_m125, 1, 1, 8) := ⟨nm_f125.2.1, (fun _ C F N9 h => by cases h; rfl), (fun h => absurd h (by decide))⟩
theorem nm_wd_m126 : nm_Wd nm_m126 := ⟨nm_C9, nm_CE, 9, 0, 8, nm_ok_m126, nm_C9_A, nm_CE_X, rfl, (fun h => absurd h (by decide))⟩
theorem nm_g126 : nm_Mq (nm_m126, 1, 1, 8) := ⟨nm_f126.2.1, (fun _ C F N9 h => by cases h; rfl), (fun h => absurd h (by decide))⟩
theorem nm_wd_m127 : nm_Wd nm_m127 := ⟨nm_C10, nm_CE, 10, 0, 9, nm_ok_m127, nm_C10_A, nm_CE_X, rfl, (fun h => absurd h (by decide))⟩
theorem nm_g127 : nm_Mq (nm_m127, 1, 0, 9) := ⟨nm_f127.2.1, (fun _ C F N9 h => by cases h; rfl), (fun h => absurd h (by decide))⟩
theorem nm_wd_m128 : nm_Wd nm_m128 := ⟨nm_C10, nm_CE, 10, 0, 9, nm_ok_m128, nm_C10_A, nm_CE_X, rfl, (fun h => absurd h (by decide))⟩
theorem nm_g128 : nm_Mq (nm_m128, 0, 3, 9) := ⟨nm_f128.2.1, (fun h => absurd h (by decide)), (fun h => absurd h (by decide))⟩
theorem nm_wd_m129 : nm_Wd nm_m129 := ⟨nm_C10, nm_CE, 10, 0, 9, nm_ok_m129, nm_C10_A, nm_CE_X, rfl, (fun h => absurd h (by decide))⟩
theorem nm_g129 : nm_Mq (nm_m129, 0, 2, 9) := ⟨nm_f129.2.1, (fun h => absurd h (by decide)), (fun h => absurd h (by decide))⟩
theorem nm_wd_m130 : nm_Wd nm_m130 := ⟨nm_C10, nm_CE, 10, 0, 9, nm_ok_m130, nm_C10_A, nm_CE_X, rfl, (fun h => absurd h (by decide))⟩
theorem nm_g130 : nm_Mq (nm_m130, 0, 1, 9) := ⟨nm_f130.2.1, (fun h => absurd h (by decide)), (fun h => absurd h (by decide))⟩
theorem nm_wd_m131 : nm_Wd nm_m131 := ⟨nm_C10, nm_CE, 10, 0, 9, nm_ok_m131, nm_C10_A, nm_CE_X, rfl, (fun h => absurd h (by decide))⟩
theorem nm_g131 : nm_Mq (nm_m131, 1, 1, 9) := ⟨nm_f131.2.1, (fun _ C F N9 h => by cases h; rfl), (fun h => absurd h (by decide))⟩
theorem nm_wd_m132 : nm_Wd nm_m132 := ⟨nm_C10, nm_CE, 10, 0, 9, nm_ok_m132, nm_C10_A, nm_CE_X, rfl, (fun h => absurd h (by decide))⟩
theorem nm_g132 : nm_Mq (nm_m132, 1, 1, 9) := ⟨nm_f132.2.1, (fun _ C F N9 h => by cases h; rfl), (fun h => absurd h (by decide))⟩
theorem nm_wd_m133 : nm_Wd nm_m133 := ⟨nm_C10, nm_CE, 10, 0, 9, nm_ok_m133, nm_C10_A, nm_CE_X, rfl, (fun h => absurd h (by decide))⟩
theorem nm_g133 : nm_Mq (nm_m133, 1, 1, 9) := ⟨nm_f133.2.1, (fun _ C F N9 h => by cases h; rfl), (fun h => absurd h (by decide))⟩
theorem nm_wd_m134 : nm_Wd nm_m134 := ⟨nm_C10, nm_CE, 10, 0, 9, nm_ok_m134, nm_C10_A, nm_CE_X, rfl, (fun h => absurd h (by decide))⟩
theorem nm_g134 : nm_Mq (nm_m134, 1, 1, 9) := ⟨nm_f134.2.1, (fun _ C F N9 h => by cases h; rfl), (fun h => absurd h (by decide))⟩
theorem nm_wd_m135 : nm_Wd nm_m135 := ⟨nm_C10, nm_CE, 10, 0, 9, nm_ok_m135, nm_C10_A, nm_CE_X, rfl, (fun h => absurd h (by decide))⟩
theorem nm_g135 : nm_Mq (nm_m135, 1, 2, 9) := ⟨nm_f135.2.1, (fun _ C F N9 h => by cases h; rfl), (fun h => absurd h (by decide))⟩
theorem nm_wd_m136 : nm_Wd nm_m136 := ⟨nm_C10, nm_CE, 10, 0, 9, nm_ok_m136, nm_C10_A, nm_CE_X, rfl, (fun h => absurd h (by decide))⟩
theorem nm_g136 : nm_Mq (nm_m136, 1, 3, 9) := ⟨nm_f136.2.1, (fun _ C F N9 h => by cases h; rfl), (fun h => absurd h (by decide))⟩
theorem nm_wd_m137 : nm_Wd nm_m137 := ⟨nm_C10, nm_CE, 10, 0, 9, nm_ok_m137, nm_C10_A, nm_CE_X, rfl, (fun h => absurd h (by decide))⟩
theorem nm_g137 : nm_Mq (nm_m137, 1, 2, 9) := ⟨nm_f137.2.1, (fun _ C F N9 h => by cases h; rfl), (fun h => absurd h (by decide))⟩
theorem nm_wd_m138 : nm_Wd nm_m138 := ⟨nm_C10, nm_CE, 10, 0, 9, nm_ok_m138, nm_C10_A, nm_CE_X, rfl, (fun h => absurd h (by decide))⟩
theorem nm_g138 : nm_Mq (nm_m138, 1, 4, 9) := ⟨nm_f138.2.1, (fun _ C F N9 h => by cases h; rfl), (fun h => absurd h (by decide))⟩
theorem nm_wd_m139 : nm_Wd nm_m139 := ⟨nm_C10, nm_CE, 10, 0, 9, nm_ok_m139, nm_C10_A, nm_CE_X, rfl, (fun h => absurd h (by decide))⟩
theorem nm_g139 : nm_Mq (nm_m139, 0, 1, 9) := ⟨nm_f139.2.1, (fun h => absurd h (by decide)), (fun h => absurd h (by decide))⟩
theorem nm_wd_m140 : nm_Wd nm_m140 := ⟨nm_C10, nm_CE, 10, 0, 9, nm_ok_m140, nm_C10_A, nm_CE_X, rfl, (fun h => absurd h (by decide))⟩
theorem nm_g140 : nm_Mq (nm_m140, 1, 2, 9) := ⟨nm_f140.2.1, (fun _ C F N9 h => by cases h; rfl), (fun h => absurd h (by decide))⟩
theorem nm_wd_m141 : nm_Wd nm_m141 := ⟨nm_C10, nm_CE, 10, 0, 9, nm_ok_m141, nm_C10_A, nm_CE_X, rfl, (fun h => absurd h (by decide))⟩
theorem nm_g141 : nm_Mq (nm_m141, 1, 2, 9) := ⟨nm_f141.2.1, (fun _ C F N9 h => by cases h; rfl), (fun h => absurd h (by decide))⟩
theorem nm_wd_m142 : nm_Wd nm_m142 := ⟨nm_C10, nm_CE, 10, 0, 9, nm_ok_m142, nm_C10_A, nm_CE_X, rfl, (fun h => absurd h (by decide))⟩
theorem nm_g142 : nm_Mq (nm_m142, 1, 3, 9) := ⟨nm_f142.2.1, (fun _ C F N9 h => by cases h; rfl), (fun h => absurd h (by decide))⟩
theorem nm_wd_m143 : nm_Wd nm_m143 := ⟨nm_C10, nm_CE, 10, 0, 9, nm_ok_m143, nm_C10_A, nm_CE_X, rfl, (fun h => absurd h (by decide))⟩
theorem nm_g143 : nm_Mq (nm_m143, 1, 1, 9) := ⟨nm_f143.2.1, (fun _ C F N9 h => by cases h; rfl), (fun h => absurd h (by decide))⟩
theorem nm_wd_m144 : nm_Wd nm_m144 := ⟨nm_C10, nm_CE, 10, 0, 9, nm_ok_m144, nm_C10_A, nm_CE_X, rfl, (fun h => absurd h (by decide))⟩
theorem nm_g144 : nm_Mq (nm_m144, 1, 1, 9) := ⟨nm_f144.2.1, (fun _ C F N9 h => by cases h; rfl), (fun h => absurd h (by decide))⟩
theorem nm_wd_m145 : nm_Wd nm_m145 := ⟨nm_C10, nm_CE, 10, 0, 9, nm_ok_m145, nm_C10_A, nm_CE_X, rfl, (fun h => absurd h (by decide))⟩
theorem nm_g145 : nm_Mq (nm_m145, 1, 1, 9) := ⟨nm_f145.2.1, (fun _ C F N9 h => by cases h; rfl), (fun h => absurd h (by decide))⟩
theorem nm_wd_m146 : nm_Wd nm_m146 := ⟨nm_C10, nm_CE, 10, 0, 9, nm_ok_m146, nm_C10_A, nm_CE_X, rfl, (fun h => absurd h (by decide))⟩
theorem nm_g146 : nm_Mq (nm_m146, 1, 0, 9) := ⟨nm_f146.2.1, (fun _ C F N9 h => by cases h; rfl), (fun h => absurd h (by decide))⟩
theorem nm_wd_m147 : nm_Wd nm_m147 := ⟨nm_C10, nm_CE, 10, 0, 9, nm_ok_m147, nm_C10_A, nm_CE_X, rfl, (fun h => absurd h (by decide))⟩
theorem nm_g147 : nm_Mq (nm_m147, 1, 1, 9) := ⟨nm_f147.2.1, (fun _ C F N9 h => by cases h; rfl), (fun h => absurd h (by decide))⟩
theorem nm_wd_m148 : nm_Wd nm_m148 := ⟨nm_C10, nm_CE, 10, 0, 9, nm_ok_m148, nm_C10_A, nm_CE_X, rfl, (fun h => absurd h (by decide))⟩
theorem nm_g148 : nm_Mq (nm_m148, 1, 0, 9) := ⟨nm_f148.2.1, (fun _ C F N9 h => by cases h; rfl), (fun h => absurd h (by decide))⟩
theorem nm_wd_m149 : nm_Wd nm_m149 := ⟨nm_C10, nm_CE, 10, 0, 9, nm_ok_m149, nm_C10_A, nm_CE_X, rfl, (fun h => absurd h (by decide))⟩
theorem nm_g149 : nm_Mq (nm_m149, 1, 1, 9) := ⟨nm_f149.2.1, (fun _ C F N9 h => by cases h; rfl), (fun h => absurd h (by decide))⟩
theorem nm_wd_m150 : nm_Wd nm_m150 := ⟨nm_C10, nm_CE, 10, 0, 9, nm_ok_m150, nm_C10_A, nm_CE_X, rfl, (fun h => absurd h (by decide))⟩
theorem nm_g150 : nm_Mq (nm_m150, 1, 2, 9) := ⟨nm_f150.2.1, (fun _ C F N9 h => by cases h; rfl), (fun h => absurd h (by decide))⟩
theorem nm_wd_m151 : nm_Wd nm_m151 := ⟨nm_C10, nm_CE, 10, 0, 9, nm_ok_m151, nm_C10_A, nm_CE_X, rfl, (fun h => absurd h (by decide))⟩
theorem nm_g151 : nm_Mq (nm_m151, 1, 3, 9) := ⟨nm_f151.2.1, (fun _ C F N9 h => by cases h; rfl), (fun h => absurd h (by decide))⟩
theorem nm_wd_m152 : nm_Wd nm_m152 := ⟨nm_C10, nm_CE, 10, 0, 9, nm_ok_m152, nm_C10_A, nm_CE_X, rfl, (fun h => absurd h (by decide))⟩
theorem nm_g152 : nm_Mq (nm_m152, 1, 2, 9) := ⟨nm_f152.2.1, (fun _ C F N9 h => by cases h; rfl), (fun h => absurd h (by decide))⟩
theorem nm_wd_m153 : nm_Wd nm_m153 := ⟨nm_C10, nm_CE, 10, 0, 9, nm_ok_m153, nm_C10_A, nm_CE_X, rfl, (fun h => absurd h (by decide))⟩
theorem nm_g153 : nm_Mq (nm_m153, 1, 1, 9) := ⟨nm_f153.2.1, (fun _ C F N9 h => by cases h; rfl), (fun h => absurd h (by decide))⟩
theorem nm_wd_m154 : nm_Wd nm_m154 := ⟨nm_C10, nm_CE, 10, 0, 9, nm_ok_m154, nm_C10_A, nm_CE_X, rfl, (fun h => absurd h (by decide))⟩
theorem nm_g154 : nm_Mq (nm_m154, 1, 1, 9) := ⟨nm_f154.2.1, (fun _ C F N9 h => by cases h; rfl), (fun h => absurd h (by decide))⟩
theorem nm_wd_m155 : nm_Wd nm_m155 := ⟨nm_C10, nm_CE, 10, 0, 9, nm_ok_m155, nm_C10_A, nm_CE_X, rfl, (fun h => absurd h (by decide))⟩
theorem nm_g155 : nm_Mq (nm_m155, 1, 2, 9) := ⟨nm_f155.2.1, (fun _ C F N9 h => by cases h; rfl), (fun h => absurd h (by decide))⟩
theorem nm_wd_m156 : nm_Wd nm_m156 := ⟨nm_C10, nm_CE, 10, 0, 9, nm_ok_m156, nm_C10_A, nm_CE_X, rfl, (fun h => absurd h (by decide))⟩
theorem nm_g156 : nm_Mq (nm_m156, 1, 1, 9) := ⟨nm_f156.2.1, (fun _ C F N9 h => by cases h; rfl), (fun h => absurd h (by decide))⟩
theorem nm_wd_m157 : nm_Wd nm_m157 := ⟨nm_C10, nm_CE, 10, 0, 9, nm_ok_m157, nm_C10_A, nm_CE_X, rfl, (fun h => absurd h (by decide))⟩
theorem nm_g157 : nm_Mq (nm_m157, 1, 0, 9) := ⟨nm_f157.2.1, (fun _ C F N9 h => by cases h; rfl), (fun h => absurd h (by decide))⟩
theorem nm_wd_m158 : nm_Wd nm_m158 := ⟨nm_C10, nm_CE, 10, 0, 9, nm_ok_m158, nm_C10_A, nm_CE_X, rfl, (fun h => absurd h (by decide))⟩
theorem nm_g158 : nm_Mq (nm_m158, 1, 0, 9) := ⟨nm_f158.2.1, (fun _ C F N9 h => by cases h; rfl), (fun h => absurd h (by decide))⟩
theorem nm_wd_m159 : nm_Wd nm_m159 := ⟨nm_C10, nm_CE, 10, 0, 9, nm_ok_m159, nm_C10_A, nm_CE_X, rfl, (fun h => absurd h (by decide))⟩
theorem nm_g159 : nm_Mq (nm_m159, 1, 0, 9) := ⟨nm_f159.2.1, (fun _ C F N9 h => by cases h; rfl), (fun h => absurd h (by decide))⟩
theorem nm_wd_m160 : nm_Wd nm_m160 := ⟨nm_C10, nm_CE, 10, 0, 9, nm_ok_m160, nm_C10_A, nm_CE_X, rfl, (fun h => absurd h (by decide))⟩
theorem nm_g160 : nm_Mq (nm_m160, 1, 2, 9) := ⟨nm_f160.2.1, (fun _ C F N9 h => by cases h; rfl), (fun h => absurd h (by decide))⟩
theorem nm_wd_m161 : nm_Wd nm_m161 := ⟨nm_C10, nm_CE, 10, 0, 9, nm_ok_m161, nm_C10_A, nm_CE_X, rfl, (fun h => absurd h (by decide))⟩
theorem nm_g161 : nm_Mq (nm_m161, 1, 0, 9) := ⟨nm_f161.2.1, (fun _ C F N9 h => by cases h; rfl), (fun h => absurd h (by decide))⟩
theorem nm_wd_m162 : nm_Wd nm_m162 := ⟨nm_C10, nm_CE, 10, 0, 9, nm_ok_m162, nm_C10_A, nm_CE_X, rfl, (fun h => absurd h (by decide))⟩
theorem nm_g162 : nm_Mq (nm_m162, 1, 0, 9) := ⟨nm_f162.2.1, (fun _ C F N9 h => by cases h; rfl), (fun h => absurd h (by decide))⟩
theorem nm_wd_m163 : nm_Wd nm_m163 := ⟨nm_C10, nm_CE, 10, 0, 9, nm_ok_m163, nm_C10_A, nm_CE_X, rfl, (fun h => absurd h (by decide))⟩
theorem nm_g163 : nm_Mq (nm_m163, 1, 1, 9) := ⟨nm_f163.2.1, (fun _ C F N9 h => by cases h; rfl), (fun h => absurd h (by decide))⟩
theorem nm_wd_m164 : nm_Wd nm_m164 := ⟨nm_C10, nm_CE, 10, 0, 9, nm_ok_m164, nm_C10_A, nm_CE_X, rfl, (fun h => absurd h (by decide))⟩
theorem nm_g164 : nm_Mq (nm_m164, 0, 2, 9) := ⟨nm_f164.2.1, (fun h => absurd h (by decide)), (fun h => absurd h (by decide))⟩
theorem nm_wd_m165 : nm_Wd nm_m165 := ⟨nm_C10, nm_CE, 10, 0, 9, nm_ok_m165, nm_C10_A, nm_CE_X, rfl, (fun h => absurd h (by decide))⟩
theorem nm_g165 : nm_Mq (nm_m165, 1, 1, 9) := ⟨nm_f165.2.1, (fun _ C F N9 h => by cases h; rfl), (fun h => absurd h (by decide))⟩
theorem nm_wd_m166 : nm_Wd nm_m166 := ⟨nm_C10, nm_CE, 10, 0, 9, nm_ok_m166, nm_C10_A, nm_CE_X, rfl, (fun h => absurd h (by decide))⟩
theorem nm_g166 : nm_Mq (nm_m166, 1, 0, 9) := ⟨nm_f166.2.1, (fun _ C F N9 h => by cases h; rfl), (fun h => absurd h (by decide))⟩
theorem nm_wd_m167 : nm_Wd nm_m167 := ⟨nm_C10, nm_CE, 10, 0, 9, nm_ok_m167, nm_C10_A, nm_CE_X, rfl, (fun h => absurd h (by decide))⟩
theorem nm_g167 : nm_Mq (nm_m167, 1, 2, 9) := ⟨nm_f167.2.1, (fun _ C F N9 h => by cases h; rfl), (fun h => absurd h (by decide))⟩
theorem nm_wd_m168 : nm_Wd nm_m168 := ⟨nm_C10, nm_CE, 10, 0, 9, nm_ok_m168, nm_C10_A, nm_CE_X, rfl, (fun h => absurd h (by decide))⟩
theorem nm_g168 : nm_Mq (nm_m168, 1, 2, 9) := ⟨nm_f168.2.1, (fun _ C F N9 h => by cases h; rfl), (fun h => absurd h (by decide))⟩
theorem nm_wd_m169 : nm_Wd nm_m169 := ⟨nm_C10, nm_CE, 10, 0, 9, nm_ok_m169, nm_C10_A, nm_CE_X, rfl, (fun h => absurd h (by decide))⟩
theorem nm_g169 : nm_Mq (nm_m169, 1, 2, 9) := ⟨nm_f169.2.1, (fun _ C F N9 h => by cases h; rfl), (fun h => absurd h (by decide))⟩
theorem nm_wd_m170 : nm_Wd nm_m170 := ⟨nm_C10, nm_CE, 10, 0, 9, nm_ok_m170, nm_C10_A, nm_CE_X, rfl, (fun h => absurd h (by decide))⟩
theorem nm_g170 : nm_Mq (nm_m170, 1, 0, 9) := ⟨nm_f170.2.1, (fun _ C F N9 h => by cases h; rfl), (fun h => absurd h (by decide))⟩
theorem nm_wd_m171 : nm_Wd nm_m171 := ⟨nm_C10, nm_CE, 10, 0, 9, nm_ok_m171, nm_C10_A, nm_CE_X, rfl, (fun h => absurd h (by decide))⟩
theorem nm_g171 : nm_Mq (nm_m171, 1, 2, 9) := ⟨nm_f171.2.1, (fun _ C F N9 h => by cases h; rfl), (fun h => absurd h (by decide))⟩
theorem nm_wd_m172 : nm_Wd nm_m172 := ⟨nm_C10, nm_CE, 10, 0, 9, nm_ok_m172, nm_C10_A, nm_CE_X, rfl, (fun h => absurd h (by decide))⟩
theorem nm_g172 : nm_Mq (nm_m172, 1, 1, 9) := ⟨nm_f172.2.1, (fun _ C F N9 h => by cases h; rfl), (fun h => absurd h (by decide))⟩
theorem nm_wd_m173 : nm_Wd nm_m173 := ⟨nm_C10, nm_CE, 10, 0, 9, nm_ok_m173, nm_C10_A, nm_CE_X, rfl, (fun h => absurd h (by decide))⟩
theorem nm_g173 : nm_Mq (nm_m173, 1, 1, 9) := ⟨nm_f173.2.1, (fun _ C F N9 h => by cases h; rfl), (fun h => absurd h (by decide))⟩
theorem nm_wd_m174 : nm_Wd nm_m174 := ⟨nm_C10, nm_CE, 10, 0, 9, nm_ok_m174, nm_C10_A, nm_CE_X, rfl, (fun h => absurd h (by decide))⟩
theorem nm_g174 : nm_Mq (nm_m174, 0, 2, 9) := ⟨nm_f174.2.1, (fun h => absurd h (by decide)), (fun h => absurd h (by decide))⟩
theorem nm_wd_m175 : nm_Wd nm_m175 := ⟨nm_C10, nm_CE, 10, 0, 9, nm_ok_m175, nm_C10_A, nm_CE_X, rfl, (fun h => absurd h (by decide))⟩
theorem nm_g175 : nm_Mq (nm_m175, 1, 2, 9) := ⟨nm_f175.2.1, (fun _ C F N9 h => by cases h; rfl), (fun h => absurd h (by decide))⟩
theorem nm_wd_m176 : nm_Wd nm_m176 := ⟨nm_C10, nm_CE, 10, 0, 9, nm_ok_m176, nm_C10_A, nm_CE_X, rfl, (fun h => absurd h (by decide))⟩
theorem nm_g176 : nm_Mq (nm_m176, 1, 2, 9) := ⟨nm_f176.2.1, (fun _ C F N9 h => by cases h; rfl), (fun h => absurd h (by decide))⟩
theorem nm_wd_m177 : nm_Wd nm_m177 := ⟨nm_C10, nm_CE, 10, 0, 9, nm_ok_m177, nm_C10_A, nm_CE_X, rfl, (fun h => absurd h (by decide))⟩
theorem nm_g177 : nm_Mq (nm_m177, 1, 1, 9) := ⟨nm_f177.2.1, (fun _ C F N9 h => by cases h; rfl), (fun h => absurd h (by decide))⟩
theorem nm_wd_m178 : nm_Wd nm_m178 := ⟨nm_C10, nm_CE, 10, 0, 9, nm_ok_m178, nm_C10_A, nm_CE_X, rfl, (fun h => absurd h (by decide))⟩
theorem nm_g178 : nm_Mq (nm_m178, 1, 2, 9) := ⟨nm_f178.2.1, (fun _ C F N9 h => by cases h; rfl), (fun h => absurd h (by decide))⟩
theorem nm_wd_m179 : nm_Wd nm_m179 := ⟨nm_C10, nm_CE, 10, 0, 9, nm_ok_m179, nm_C10_A, nm_CE_X, rfl, (fun h => absurd h (by decide))⟩
theorem nm_g179 : nm_Mq (nm_m179, 1, 2, 9) := ⟨nm_f179.2.1, (fun _ C F N9 h => by cases h; rfl), (fun h => absurd h (by decide))⟩
theorem nm_wd_m180 : nm_Wd nm_m180 := ⟨nm_C10, nm_CE, 10, 0, 9, nm_ok_m180, nm_C10_A, nm_CE_X, rfl, (fun h => absurd h (by decide))⟩
theorem nm_g180 : nm_Mq (nm_m180, 1, 1, 9) := ⟨nm_f180.2.1, (fun _ C F N9 h => by cases h; rfl), (fun h => absurd h (by decide))⟩
theorem nm_wd_m181 : nm_Wd nm_m181 := ⟨nm_C10, nm_CE, 10, 0, 9, nm_ok_m181, nm_C10_A, nm_CE_X, rfl, (fun h => absurd h (by decide))⟩
theorem nm_g181 : nm_Mq (nm_m181, 1, 1, 9) := ⟨nm_f181.2.1, (fun _ C F N9 h => by cases h; rfl), (fun h => absurd h (by decide))⟩
theorem nm_wd_m182 : nm_Wd nm_m182 := ⟨nm_C10, nm_CE, 10, 0, 9, nm_ok_m182, nm_C10_A, nm_CE_X, rfl, (fun h => absurd h (by decide))⟩
theorem nm_g182 : nm_Mq (nm_m182, 1, 1, 9) := ⟨nm_f182.2.1, (fun _ C F N9 h => by cases h; rfl), (fun h => absurd h (by decide))⟩
theorem nm_wd_m183 : nm_Wd nm_m183 := ⟨nm_C10, nm_CE, 10, 0, 9, nm_ok_m183, nm_C10_A, nm_CE_X, rfl, (fun h => absurd h (by decide))⟩
theorem nm_g183 : nm_Mq (nm_m183, 1, 2, 9) := ⟨nm_f183.2.1, (fun _ C F N9 h => by cases h; rfl), (fun h => absurd h (by decide))⟩
theorem nm_wd_m184 : nm_Wd nm_m184 := ⟨nm_C10, nm_CE, 10, 0, 9, nm_ok_m184, nm_C10_A, nm_CE_X, rfl, (fun h => absurd h (by decide))⟩
theorem nm_g184 : nm_Mq (nm_m184, 1, 1, 9) := ⟨nm_f184.2.1, (fun _ C F N9 h => by cases h; rfl), (fun h => absurd h (by decide))⟩
theorem nm_wd_m185 : nm_Wd nm_m185 := ⟨nm_C10, nm_CE, 10, 0, 9, nm_ok_m185, nm_C10_A, nm_CE_X, rfl, (fun h => absurd h (by decide))⟩
theorem nm_g185 : nm_Mq (nm_m185, 1, 1, 9) := ⟨nm_f185.2.1, (fun _ C F N9 h => by cases h; rfl), (fun h => absurd h (by decide))⟩
theorem nm_wd_m186 : nm_Wd nm_m186 := ⟨nm_C10, nm_CE, 10, 0, 9, nm_ok_m186, nm_C10_A, nm_CE_X, rfl, (fun h => absurd h (by decide))⟩
theorem nm_g186 : nm_Mq (nm_m186, 1, 1, 9) := ⟨nm_f186.2.1, (fun _ C F N9 h => by cases h; rfl), (fun h => absurd h (by decide))⟩
theorem nm_wd_m187 : nm_Wd nm_m187 := ⟨nm_C10, nm_CE, 10, 0, 9, nm_ok_m187, nm_C10_A, nm_CE_X, rfl, (fun h => absurd h (by decide))⟩
theorem nm_g187 : nm_Mq (nm_m187, 1, 1, 9) := ⟨nm_f187.2.1, (fun _ C F N9 h => by cases h; rfl), (fun h => absurd h (by decide))⟩
theorem nm_wd_m188 : nm_Wd nm_m188 := ⟨nm_C10, nm_CE, 10, 0, 9, nm_ok_m188, nm_C10_A, nm_CE_X, rfl, (fun h => absurd h (by decide))⟩
theorem nm_g188 : nm_Mq (nm_m188, 1, 1, 9) := ⟨nm_f188.2.1, (fun _ C F N9 h => by cases h; rfl), (fun h => absurd h (by decide))⟩
theorem nm_wd_m189 : nm_Wd nm_m189 := ⟨nm_C10, nm_CE, 10, 0, 9, nm_ok_m189, nm_C10_A, nm_CE_X, rfl, (fun h => absurd h (by decide))⟩
theorem nm_g189 : nm_Mq (nm_m189, 1, 2, 9) := ⟨nm_f189.2.1, (fun _ C F N9 h => by cases h; rfl), (fun h => absurd h (by decide))⟩
theorem nm_wd_m190 : nm_Wd nm_m190 := ⟨nm_C10, nm_CE, 10, 0, 9, nm_ok_m190, nm_C10_A, nm_CE_X, rfl, (fun h => absurd h (by decide))⟩
theorem nm_g190 : nm_Mq (nm_m190, 1, 1, 9) := ⟨nm_f190.2.1, (fun _ C F N9 h => by cases h; rfl), (fun h => absurd h (by decide))⟩
theorem nm_wd_m191 : nm_Wd nm_m191 := ⟨nm_C10, nm_CE, 10, 0, 9, nm_ok_m191, nm_C10_A, nm_CE_X, rfl, (fun h => absurd h (by decide))⟩
theorem nm_g191 : nm_Mq (nm_m191, 1, 1, 9) := ⟨nm_f191.2.1, (fun _ C F N9 h => by cases h; rfl), (fun h => absurd h (by decide))⟩
theorem nm_wd_m192 : nm_Wd nm_m192 := ⟨nm_C10, nm_CE, 10, 0, 9, nm_ok_m192, nm_C10_A, nm_CE_X, rfl, (fun h => absurd h (by decide))⟩
theorem nm_g192 : nm_Mq (nm_m192, 1, 1, 9) := ⟨nm_f192.2.1, (fun _ C F N9 h => by cases h; rfl), (fun h => absurd h (by decide))⟩
theorem nm_wd_m193 : nm_Wd nm_m193 := ⟨nm_C10, nm_CE, 10, 0, 9, nm_ok_m193, nm_C10_A, nm_CE_X, rfl, (fun h => absurd h (by decide))⟩
theorem nm_g193 : nm_Mq (nm_m193, 1, 1, 9) := ⟨nm_f193.2.1, (fun _ C F N9 h => by cases h; rfl), (fun h => absurd h (by decide))⟩
theorem nm_wd_m194 : nm_Wd nm_m194 := ⟨nm_C10, nm_CE, 10, 0, 9, nm_ok_m194, nm_C10_A, nm_CE_X, rfl, (fun h => absurd h (by decide))⟩
theorem nm_g194 : nm_Mq (nm_m194, 1, 1, 9) := ⟨nm_f194.2.1, (fun _ C F N9 h => by cases h; rfl), (fun h => absurd h (by decide))⟩
theorem nm_wd_m195 : nm_Wd nm_m195 := ⟨nm_C10, nm_CE, 10, 0, 9, nm_ok_m195, nm_C10_A, nm_CE_X, rfl, (fun h => absurd h (by decide))⟩
theorem nm_g195 : nm_Mq (nm_m195, 1, 1, 9) := ⟨nm_f195.2.1, (fun _ C F N9 h => by cases h; rfl), (fun h => absurd h (by decide))⟩
theorem nm_wd_m196 : nm_Wd nm_m196 := ⟨nm_C10, nm_CE, 10, 0, 9, nm_ok_m196, nm_C10_A, nm_CE_X, rfl, (fun h => absurd h (by decide))⟩
theorem nm_g196 : nm_Mq (nm_m196, 1, 2, 9) := ⟨nm_f196.2.1, (fun _ C F N9 h => by cases h; rfl), (fun h => absurd h (by decide))⟩
theorem nm_wd_m197 : nm_Wd nm_m197 := ⟨nm_C10, nm_CE, 10, 0, 9, nm_ok_m197, nm_C10_A, nm_CE_X, rfl, (fun h => absurd h (by decide))⟩
theorem nm_g197 : nm_Mq (nm_m197, 1, 1, 9) := ⟨nm_f197.2.1, (fun _ C F N9 h => by cases h; rfl), (fun h => absurd h (by decide))⟩
theorem nm_wd_m198 : nm_Wd nm_m198 := ⟨nm_C10, nm_CE, 10, 0, 9, nm_ok_m198, nm_C10_A, nm_CE_X, rfl, (fun h => absurd h (by decide))⟩
theorem nm_g198 : nm_Mq (nm_m198, 1, 0, 9) := ⟨nm_f198.2.1, (fun _ C F N9 h => by cases h; rfl), (fun h => absurd h (by decide))⟩
theorem nm_wd_m199 : nm_Wd nm_m199 := ⟨nm_C10, nm_CE, 10, 0, 9, nm_ok_m199, nm_C10_A, nm_CE_X, rfl, (fun h => absurd h (by decide))⟩
theorem nm_g199 : nm_Mq (nm_m199, 1, 0, 9) := ⟨nm_f199.2.1, (fun _ C F N9 h => by cases h; rfl), (fun h => absurd h (by decide))⟩
theorem nm_wd_m200 : nm_Wd nm_m200 := ⟨nm_C10, nm_CE, 10, 0, 9, nm_ok_m200, nm_C10_A, nm_CE_X, rfl, (fun h => absurd h (by decide))⟩
theorem nm_g200 : nm_Mq (nm_m200, 1, 2, 9) := ⟨nm_f200.2.1, (fun _ C F N9 h => by cases h; rfl), (fun h => absurd h (by decide))⟩
theorem nm_wd_m201 : nm_Wd nm_m201 := ⟨nm_C10, nm_CE, 10, 0, 9, nm_ok_m201, nm_C10_A, nm_CE_X, rfl, (fun h => absurd h (by decide))⟩
theorem nm_g201 : nm_Mq (nm_m201, 1, 2, 9) := ⟨nm_f201.2.1, (fun _ C F N9 h => by cases h; rfl), (fun h => absurd h (by decide))⟩
theorem nm_wd_m202 : nm_Wd nm_m202 := ⟨nm_C10, nm_CE, 10, 0, 9, nm_ok_m202, nm_C10_A, nm_CE_X, rfl, (fun h => absurd h (by decide))⟩
theorem nm_g202 : nm_Mq (nm_m202, 1, 0, 9) := ⟨nm_f202.2.1, (fun _ C F N9 h => by cases h; rfl), (fun h => absurd h (by decide))⟩
theorem nm_wd_m203 : nm_Wd nm_m203 := ⟨nm_C10, nm_CE, 10, 0, 9, nm_ok_m203, nm_C10_A, nm_CE_X, rfl, (fun h => absurd h (by decide))⟩
theorem nm_g203 : nm_Mq (nm_m203, 1, 3, 9) := ⟨nm_f203.2.1, (fun _ C F N9 h => by cases h; rfl), (fun h => absurd h (by decide))⟩
theorem nm_wd_m204 : nm_Wd nm_m204 := ⟨nm_C10, nm_CE, 10, 0, 9, nm_ok_m204, nm_C10_A, nm_CE_X, rfl, (fun h => absurd h (by decide))⟩
theorem nm_g204 : nm_Mq (nm_m204, 1, 3, 9) := ⟨nm_f204.2.1, (fun _ C F N9 h => by cases h; rfl), (fun h => absurd h (by decide))⟩
theorem nm_wd_m205 : nm_Wd nm_m205 := ⟨nm_C10, nm_CE, 10, 0, 9, nm_ok_m205, nm_C10_A, nm_CE_X, rfl, (fun h => absurd h (by decide))⟩
theorem nm_g205 : nm_Mq (nm_m205, 1, 3, 9) := ⟨nm_f205.2.1, (fun _ C F N9 h => by cases h; rfl), (fun h => absurd h (by decide))⟩
theorem nm_wd_m206 : nm_Wd nm_m206 := ⟨nm_C10, nm_CE, 10, 0, 9, nm_ok_m206, nm_C10_A, nm_CE_X, rfl, (fun h => absurd h (by decide))⟩
theorem nm_g206 : nm_Mq (nm_m206, 1, 5, 9) := ⟨nm_f206.2.1, (fun _ C F N9 h => by cases h; rfl), (fun h => absurd h (by decide))⟩
theorem nm_wd_m207 : nm_Wd nm_m207 := ⟨nm_C10, nm_CE, 10, 0, 9, nm_ok_m207, nm_C10_A, nm_CE_X, rfl, (fun h => absurd h (by decide))⟩
theorem nm_g207 : nm_Mq (nm_m207, 1, 4, 9) := ⟨nm_f207.2.1, (fun _ C F N9 h => by cases h; rfl), (fun h => absurd h (by decide))⟩
theorem nm_wd_m208 : nm_Wd nm_m208 := ⟨nm_C10, nm_CE, 10, 0, 9, nm_ok_m208, nm_C10_A, nm_CE_X, rfl, (fun h => absurd h (by decide))⟩
theorem nm_g208 : nm_Mq (nm_m208, 1, 1, 9) := ⟨nm_f208.2.1, (fun _ C F N9 h => by cases h; rfl), (fun h => absurd h (by decide))⟩
theorem nm_wd_m209 : nm_Wd nm_m209 := ⟨nm_C10, nm_CE, 10, 0, 9, nm_ok_m209, nm_C10_A, nm_CE_X, rfl, (fun h => absurd h (by decide))⟩
theorem nm_g209 : nm_Mq (nm_m209, 1, 4, 9) := ⟨nm_f209.2.1, (fun _ C F N9 h => by cases h; rfl), (fun h => absurd h (by decide))⟩
theorem nm_wd_m210 : nm_Wd nm_m210 := ⟨nm_C10, nm_CE, 10, 0, 9, nm_ok_m210, nm_C10_A, nm_CE_X, rfl, (fun h => absurd h (by decide))⟩
theorem nm_g210 : nm_Mq (nm_m210, 1, 2, 9) := ⟨nm_f210.2.1, (fun _ C F N9 h => by cases h; rfl), (fun h => absurd h (by decide))⟩
theorem nm_wd_m211 : nm_Wd nm_m211 := ⟨nm_C10, nm_CE, 10, 0, 9, nm_ok_m211, nm_C10_A, nm_CE_X, rfl, (fun h => absurd h (by decide))⟩
theorem nm_g211 : nm_Mq (nm_m211, 1, 1, 9) := ⟨nm_f211.2.1, (fun _ C F N9 h => by cases h; rfl), (fun h => absurd h (by decide))⟩
theorem nm_wd_m212 : nm_Wd nm_m212 := ⟨nm_C10, nm_CE, 10, 0, 9, nm_ok_m212, nm_C10_A, nm_CE_X, rfl, (fun h => absurd h (by decide))⟩
theorem nm_g212 : nm_Mq (nm_m212, 1, 2, 9) := ⟨nm_f212.2.1, (fun _ C F N9 h => by cases h; rfl), (fun h => absurd h (by decide))⟩
theorem nm_wd_m213 : nm_Wd nm_m213 := ⟨nm_C10, nm_CE, 10, 0, 9, nm_ok_m213, nm_C10_A, nm_CE_X, rfl, (fun h => absurd h (by decide))⟩
theorem nm_g213 : nm_Mq (nm_m213, 1, 1, 9) := ⟨nm_f213.2.1, (fun _ C F N9 h => by cases h; rfl), (fun h => absurd h (by decide))⟩
theorem nm_wd_m214 : nm_Wd nm_m214 := ⟨nm_C10, nm_CE, 10, 0, 9, nm_ok_m214, nm_C10_A, nm_CE_X, rfl, (fun h => absurd h (by decide))⟩
theorem nm_g214 : nm_Mq (nm_m214, 1, 0, 9) := ⟨nm_f214.2.1, (fun _ C F N9 h => by cases h; rfl), (fun h => absurd h (by decide))⟩
theorem nm_wd_m215 : nm_Wd nm_m215 := ⟨nm_C10, nm_CE, 10, 0, 9, nm_ok_m215, nm_C10_A, nm_CE_X, rfl, (fun h => absurd h (by decide))⟩
theorem nm_g215 : nm_Mq (nm_m215, 1, 1, 9) := ⟨nm_f215.2.1, (fun _ C F N9 h => by cases h; rfl), (fun h => absurd h (by decide))⟩
theorem nm_wd_m216 : nm_Wd nm_m216 := ⟨nm_C10, nm_CE, 10, 0, 9, nm_ok_m216, nm_C10_A, nm_CE_X, rfl, (fun h => absurd h (by decide))⟩
theorem nm_g216 : nm_Mq (nm_m216, 1, 2, 9) := ⟨nm_f216.2.1, (fun _ C F N9 h => by cases h; rfl), (fun h => absurd h (by decide))⟩
theorem nm_wd_m217 : nm_Wd nm_m217 := ⟨nm_C10, nm_CE, 10, 0, 9, nm_ok_m217, nm_C10_A, nm_CE_X, rfl, (fun h => absurd h (by decide))⟩
theorem nm_g217 : nm_Mq (nm_m217, 1, 2, 9) := ⟨nm_f217.2.1, (fun _ C F N9 h => by cases h; rfl), (fun h => absurd h (by decide))⟩
theorem nm_wd_m218 : nm_Wd nm_m218 := ⟨nm_C10, nm_CE, 10, 0, 9, nm_ok_m218, nm_C10_A, nm_CE_X, rfl, (fun h => absurd h (by decide))⟩
theorem nm_g218 : nm_Mq (nm_m218, 1, 0, 9) := ⟨nm_f218.2.1, (fun _ C F N9 h => by cases h; rfl), (fun h => absurd h (by decide))⟩
theorem nm_wd_m219 : nm_Wd nm_m219 := ⟨nm_C10, nm_CE, 10, 0, 9, nm_ok_m219, nm_C10_A, nm_CE_X, rfl, (fun h => absurd h (by decide))⟩
theorem nm_g219 : nm_Mq (nm_m219, 1, 1, 9) := ⟨nm_f219.2.1, (fun _ C F N9 h => by cases h; rfl), (fun h => absurd h (by decide))⟩
theorem nm_wd_m220 : nm_Wd nm_m220 := ⟨nm_C10, nm_CE, 10, 0, 9, nm_ok_m220, nm_C10_A, nm_CE_X, rfl, (fun h => absurd h (by decide))⟩
theorem nm_g220 : nm_Mq (nm_m220, 1, 1, 9) := ⟨nm_f220.2.1, (fun _ C F N9 h => by cases h; rfl), (fun h => absurd h (by decide))⟩
theorem nm_wd_m221 : nm_Wd nm_m221 := ⟨nm_C10, nm_CE, 10, 0, 9, nm_ok_m221, nm_C10_A, nm_CE_X, rfl, (fun h => absurd h (by decide))⟩
theorem nm_g221 : nm_Mq (nm_m221, 1, 1, 9) := ⟨nm_f221.2.1, (fun _ C F N9 h => by cases h; rfl), (fun h => absurd h (by decide))⟩
theorem nm_wd_m222 : nm_Wd nm_m222 := ⟨nm_C10, nm_CE, 10, 0, 9, nm_ok_m222, nm_C10_A, nm_CE_X, rfl, (fun h => absurd h (by decide))⟩
theorem nm_g222 : nm_Mq (nm_m222, 1, 0, 9) := ⟨nm_f222.2.1, (fun _ C F N9 h => by cases h; rfl), (fun h => absurd h (by decide))⟩
theorem nm_wd_m223 : nm_Wd nm_m223 := ⟨nm_C10, nm_CE, 10, 0, 9, nm_ok_m223, nm_C10_A, nm_CE_X, rfl, (fun h => absurd h (by decide))⟩
theorem nm_g223 : nm_Mq (nm_m223, 1, 1, 9) := ⟨nm_f223.2.1, (fun _ C F N9 h => by cases h; rfl), (fun h => absurd h (by decide))⟩
theorem nm_wd_m224 : nm_Wd nm_m224 := ⟨nm_C10, nm_CE, 10, 2, 9, nm_ok_m224, nm_C10_A, nm_CE_X, rfl, fun _ => ⟨rfl, fun C F N9 h => by cases h; rfl⟩⟩
theorem nm_g224 : nm_Mq (nm_m224, 2, 0, 9) := ⟨nm_f224.2.1, (fun h => absurd h (by decide)), (fun _ => ⟨rfl, rfl, fun C F N9 h => by cases h; rfl⟩)⟩
theorem nm_wd_m225 : nm_Wd nm_m225 := ⟨nm_C10, nm_CE, 10, 0, 9, nm_ok_m225, nm_C10_A, nm_CE_X, rfl, (fun h => absurd h (by decide))⟩
theorem nm_g225 : nm_Mq (nm_m225, 1, 1, 9) := ⟨nm_f225.2.1, (fun _ C F N9 h => by cases h; rfl), (fun h => absurd h (by decide))⟩
theorem nm_wd_law : nm_Wd nm_law := ⟨nm_C11, nm_CE, 11, 0, 0, nm_ok_law, nm_C11_A, nm_CE_X, rfl, (fun h => absurd h (by decide))⟩
theorem nm_wd_lrow0 : nm_Wd nm_lrow0 := ⟨nm_C11, nm_CE, 11, 0, 0, nm_ok_lrow0, nm_C11_A, nm_CE_X, rfl, (fun h => absurd h (by decide))⟩
theorem nm_wd_lrow1 : nm_Wd nm_lrow1 := ⟨nm_C11, nm_CE, 11, 0, 0, nm_ok_lrow1, nm_C11_A, nm_CE_X, rfl, (fun h => absurd h (by decide))⟩
theorem nm_wd_xrow1 : nm_Wd nm_xrow1 := ⟨nm_C9, nm_CE, 9, 0, 8, nm_ok_xrow1, nm_C9_A, nm_CE_X, rfl, (fun h => absurd h (by decide))⟩
theorem nm_P0_ok : ∀ M ∈ [nm_m0, nm_m1, nm_m2, nm_m3, nm_m4, nm_m5, nm_m6, nm_m7, nm_m8, nm_m9, nm_m10, nm_m11, nm_m12, nm_m13, nm_m14, nm_m15, nm_m16, nm_m17, nm_m18, nm_m19], nm_Wd M ∧ plainName (px_nm M).cls = true := List.forall_mem_cons.mpr ⟨⟨nm_wd_m0, nm_f0.2.2⟩, List.forall_mem_cons.mpr ⟨⟨nm_wd_m1, nm_f1.2.2⟩, List.forall_mem_cons.mpr ⟨⟨nm_wd_m2, nm_f2.2.2⟩, List.forall_mem_cons.mpr ⟨⟨nm_wd_m3, nm_f3.2.2⟩, List.forall_mem_cons.mpr ⟨⟨nm_wd_m4, nm_f4.2.2⟩, List.forall_mem_cons.mpr ⟨⟨nm_wd_m5, nm_f5.2.2⟩, List.forall_mem_cons.mpr ⟨⟨nm_wd_m6, nm_f6.2.2⟩, List.forall_mem_cons.mpr ⟨⟨nm_wd_m7, nm_f7.2.2⟩, List.forall_mem_cons.mpr ⟨⟨nm_wd_m8, nm_f8.2.2⟩, List.forall_mem_cons.mpr ⟨⟨nm_wd_m9, nm_f9.2.2⟩, List.forall_mem_cons.mpr ⟨⟨nm_wd_m10, nm_f10.2.2⟩, List.forall_mem_cons.mpr ⟨⟨nm_wd_m11, nm_f11.2.2⟩, List.forall_mem_cons.mpr ⟨⟨nm_wd_m12, nm_f12.2.2⟩, List.forall_mem_cons.mpr ⟨⟨nm_wd_m13, nm_f13.2.2⟩, List.forall_mem_cons.mpr ⟨⟨nm_wd_m14, nm_f14.2.2⟩, List.forall_mem_cons.mpr ⟨⟨nm_wd_m15, nm_f15.2.2⟩, List.forall_mem_cons.mpr ⟨⟨nm_wd_m16, nm_f16.2.2⟩, List.forall_mem_cons.mpr ⟨⟨nm_wd_m17, nm_f17.2.2⟩, List.forall_mem_cons.mpr ⟨⟨nm_wd_m18, nm_f18.2.2⟩, List.forall_mem_cons.mpr ⟨⟨nm_wd_m19, nm_f19.2.2⟩, fun _ h => absurd h List.not_mem_nil⟩⟩⟩⟩⟩⟩⟩⟩⟩⟩⟩⟩⟩⟩⟩⟩⟩⟩⟩⟩
theorem nm_G0_ok : ∀ q ∈ [(nm_m0, 2, 0, 0), (nm_m1, 1, 1, 0), (nm_m2, 1, 2, 0), (nm_m3, 1, 2, 0), (nm_m4, 1, 2, 0), (nm_m5, 1, 1, 0), (nm_m6, 1, 1, 1), (nm_m7, 1, 2, 1), (nm_m8, 1, 3, 1), (nm_m9, 1, 1, 1), (nm_m10, 1, 1, 0), (nm_m11, 0, 1, 0), (nm_m12, 1, 1, 0), (nm_m13, 1, 2, 0), (nm_m14, 1, 1, 0), (nm_m15, 2, 0, 3), (nm_m16, 2, 1, 1), (nm_m17, 1, 4, 1), (nm_m18, 1, 1, 6), (nm_m19, 1, 1, 6)], nm_Mq q := List.forall_mem_cons.mpr ⟨nm_g0, List.forall_mem_cons.mpr ⟨nm_g1, List.forall_mem_cons.mpr ⟨nm_g2, List.forall_mem_cons.mpr ⟨nm_g3, List.forall_mem_cons.mpr ⟨nm_g4, List.forall_mem_cons.mpr ⟨nm_g5, List.forall_mem_cons.mpr ⟨nm_g6, List.forall_mem_cons.mpr ⟨nm_g7, List.forall_mem_cons.mpr ⟨nm_g8, List.forall_mem_cons.mpr ⟨nm_g9, List.forall_mem_cons.mpr ⟨nm_g10, List.forall_mem_cons.mpr ⟨nm_g11, List.forall_mem_cons.mpr ⟨nm_g12, List.forall_mem_cons.mpr ⟨nm_g13, List.forall_mem_cons.mpr ⟨nm_g14, List.forall_mem_cons.mpr ⟨nm_g15, List.forall_mem_cons.mpr ⟨nm_g16, List.forall_mem_cons.mpr ⟨nm_g17, List.forall_mem_cons.mpr ⟨nm_g18, List.forall_mem_cons.mpr ⟨nm_g19, fun _ h => absurd h List.not_mem_nil⟩⟩⟩⟩⟩⟩⟩⟩⟩⟩⟩⟩⟩⟩⟩⟩⟩⟩⟩⟩
theorem nm_P1_ok : ∀ M ∈ [nm_m20, nm_m21, nm_m22, nm_m23, nm_m24, nm_m25, nm_m26, nm_m27, nm_m28, nm_m29, nm_m30, nm_m31, nm_m32, nm_m33, nm_m34, nm_m35, nm_m36, nm_m37, nm_m38, nm_m39], nm_Wd M ∧ plainName (px_nm M).cls = true := List.forall_mem_cons.mpr ⟨⟨nm_wd_m20, nm_f20.2.2⟩, List.forall_mem_cons.mpr ⟨⟨nm_wd_m21, nm_f21.2.2⟩, List.forall_mem_cons.mpr ⟨⟨nm_wd_m22, nm_f22.2.2⟩, List.forall_mem_cons.mpr ⟨⟨nm_wd_m23, nm_f23.2.2⟩, List.forall_mem_cons.mpr ⟨⟨nm_wd_m24, nm_f24.2.2⟩, List.forall_mem_cons.mpr ⟨⟨nm_wd_m25, nm_f25.2.2⟩, List.forall_mem_cons.mpr ⟨⟨nm_wd_m26, nm_f26.2.2⟩, List.forall_mem_cons.mpr ⟨⟨nm_wd_m27, nm_f27.2.2⟩, List.forall_mem_cons.mpr ⟨⟨nm_wd_m28, nm_f28.2.2⟩, List.forall_mem_cons.mpr ⟨⟨nm_wd_m29, nm_f29.2.2⟩, List.forall_mem_cons.mpr ⟨⟨nm_wd_m30, nm_f30.2.2⟩, List.forall_mem_cons.mpr ⟨⟨nm_wd_m31, nm_f31.2.2⟩, List.forall_mem_cons.mpr ⟨⟨nm_wd_m32, nm_f32.2.2⟩, List.forall_mem_cons.mpr ⟨⟨nm_wd_m33, nm_f33.2.2⟩, List.forall_mem_cons.mpr ⟨⟨nm_wd_m34, nm_f34.2.2⟩, List.forall_mem_cons.mpr ⟨⟨nm_wd_m35, nm_f35.2.2⟩, List.forall_mem_cons.mpr ⟨⟨nm_wd_m36, nm_f36.2.2⟩, List.forall_mem_cons.mpr ⟨⟨nm_wd_m37, nm_f37.2.2⟩, List.forall_mem_cons.mpr ⟨⟨nm_wd_m38, nm_f38.2.2⟩, List.forall_mem_cons.mpr ⟨⟨nm_wd_m39, nm_f39.2.2⟩, fun _ h => absurd h List.not_mem_nil⟩⟩⟩⟩⟩⟩⟩⟩⟩⟩⟩⟩⟩⟩⟩⟩⟩⟩⟩⟩
theorem nm_G1_ok : ∀ q ∈ [(nm_m20, 1, 1, 6), (nm_m21, 1, 1, 6), (nm_m22, 1, 1, 6), (nm_m23, 1, 1, 1), (nm_m24, 1, 2, 1), (nm_m25, 1, 3, 1), (nm_m26, 2, 0, 2), (nm_m27, 1, 0, 2), (nm_m28, 1, 1, 2), (nm_m29, 1, 1, 2), (nm_m30, 1, 1, 3), (nm_m31, 2, 0, 4), (nm_m32, 0, 2, 4), (nm_m33, 1, 0, 4), (nm_m34, 1, 3, 4), (nm_m35, 1, 1, 4), (nm_m36, 2, 0, 5), (nm_m37, 1, 1, 5), (nm_m38, 1, 1, 5), (nm_m39, 0, 2, 5)], nm_Mq q := List.forall_mem_cons.mpr ⟨nm_g20, List.forall_mem_cons.mpr ⟨nm_g21, List.forall_mem_cons.mpr ⟨nm_g22, List.forall_mem_cons.mpr ⟨nm_g23, List.forall_mem_cons.mpr ⟨nm_g24, List.forall_mem_cons.mpr ⟨nm_g25, List.forall_mem_cons.mpr ⟨nm_g26, List.forall_mem_cons.mpr ⟨nm_g27, List.forall_mem_cons.mpr ⟨nm_g28, List.forall_mem_cons.mpr ⟨nm_g29, List.forall_mem_cons.mpr ⟨nm_g30, List.forall_mem_cons.mpr ⟨nm_g31, List.forall_mem_cons.mpr ⟨nm_g32, List.forall_mem_cons.mpr ⟨nm_g33, List.forall_mem_cons.mpr ⟨nm_g34, List.forall_mem_cons.mpr ⟨nm_g35, List.forall_mem_cons.mpr ⟨nm_g36, List.forall_mem_cons.mpr ⟨nm_g37, List.forall_mem_cons.mpr ⟨nm_g38, List.forall_mem_cons.mpr ⟨nm_g39, fun _ h => absurd h List.not_mem_nil⟩⟩⟩⟩⟩⟩⟩⟩⟩⟩⟩⟩⟩⟩⟩⟩⟩⟩⟩⟩
theorem nm_P2_ok : ∀ M ∈ [nm_m40, nm_m41, nm_m42, nm_m43, nm_m44, nm_m45, nm_m46, nm_m47, nm_m48, nm_m49, nm_m50, nm_m51, nm_m52, nm_m53, nm_m54, nm_m55, nm_m56, nm_m57, nm_m58, nm_m59], nm_Wd M ∧ plainName (px_nm M).cls = true := List.forall_mem_cons.mpr ⟨⟨nm_wd_m40, nm_f40.2.2⟩, List.forall_mem_cons.mpr ⟨⟨nm_wd_m41, nm_f41.2.2⟩, List.forall_mem_cons.mpr ⟨⟨nm_wd_m42, nm_f42.2.2⟩, List.forall_mem_cons.mpr ⟨⟨nm_wd_m43, nm_f43.2.2⟩, List.forall_mem_cons.mpr ⟨⟨nm_wd_m44, nm_f44.2.2⟩, List.forall_mem_cons.mpr ⟨⟨nm_wd_m45, nm_f45.2.2⟩, List.forall_mem_cons.mpr ⟨⟨nm_wd_m46, nm_f46.2.2⟩, List.forall_mem_cons.mpr ⟨⟨nm_wd_m47, nm_f47.2.2⟩, List.forall_mem_cons.mpr ⟨⟨nm_wd_m48, nm_f48.2.2⟩, List.forall_mem_cons.mpr ⟨⟨nm_wd_m49, nm_f49.2.2⟩, List.forall_mem_cons.mpr ⟨⟨nm_wd_m50, nm_f50.2.2⟩, List.forall_mem_cons.mpr ⟨⟨nm_wd_m51, nm_f51.2.2⟩, List.forall_mem_cons.mpr ⟨⟨nm_wd_m52, nm_f52.2.2⟩, List.forall_mem_cons.mpr ⟨⟨nm_wd_m53, nm_f53.2.2⟩, List.forall_mem_cons.mpr ⟨⟨nm_wd_m54, nm_f54.2.2⟩, List.forall_mem_cons.mpr ⟨⟨nm_wd_m55, nm_f55.2.2⟩, List.forall_mem_cons.mpr ⟨⟨nm_wd_m56, nm_f56.2.2⟩, List.forall_mem_cons.mpr ⟨⟨nm_wd_m57, nm_f57.2.2⟩, List.forall_mem_cons.mpr ⟨⟨nm_wd_m58, nm_f58.2.2⟩, List.forall_mem_cons.mpr ⟨⟨nm_wd_m59, nm_f59.2.2⟩, fun _ h => absurd h List.not_mem_nil⟩⟩⟩⟩⟩⟩⟩⟩⟩⟩⟩⟩⟩⟩⟩⟩⟩⟩⟩⟩
theorem nm_G2_ok : ∀ q ∈ [(nm_m40, 1, 0, 5), (nm_m41, 2, 0, 6), (nm_m42, 1, 1, 6), (nm_m43, 1, 3, 6), (nm_m44, 1, 0, 6), (nm_m45, 1, 0, 6), (nm_m46, 1, 1, 6), (nm_m47, 1, 1, 6), (nm_m48, 2, 0, 7), (nm_m49, 1, 1, 7), (nm_m50, 1, 1, 7), (nm_m51, 1, 2, 7), (nm_m52, 1, 1, 7), (nm_m53, 1, 2, 7), (nm_m54, 1, 1, 7), (nm_m55, 1, 0, 7), (nm_m56, 1, 1, 7), (nm_m57, 0, 2, 8), (nm_m58, 1, 2, 7), (nm_m59, 1, 1, 7)], nm_Mq q := List.forall_mem_cons.mpr ⟨nm_g40, List.forall_mem_cons.mpr ⟨nm_g41, List.forall_mem_cons.mpr ⟨nm_g42, List.forall_mem_cons.mpr ⟨nm_g43, List.forall_mem_cons.mpr ⟨nm_g44, List.forall_mem_cons.mpr ⟨nm_g45, List.forall_mem_cons.mpr ⟨nm_g46, List.forall_mem_cons.mpr ⟨nm_g47, List.forall_mem_cons.mpr ⟨nm_g48, List.forall_mem_cons.mpr ⟨nm_g49, List.forall_mem_cons.mpr ⟨nm_g50, List.forall_mem_cons.mpr ⟨nm_g51, List.forall_mem_cons.mpr ⟨nm_g52, List.forall_mem_cons.mpr ⟨nm_g53, List.forall_mem_cons.mpr ⟨nm_g54, List.forall_mem_cons.mpr ⟨nm_g55, List.forall_mem_cons.mpr ⟨nm_g56, List.forall_mem_cons.mpr ⟨nm_g57, List.forall_mem_cons.mpr ⟨nm_g58, List.forall_mem_cons.mpr ⟨nm_g59, fun _ h => absurd h List.not_mem_nil⟩⟩⟩⟩⟩⟩⟩⟩⟩⟩⟩⟩⟩⟩⟩⟩⟩⟩⟩⟩
theorem nm_P3_ok : ∀ M ∈ [nm_m60, nm_m61, nm_m62, nm_m63, nm_m64, nm_m65, nm_m66, nm_m67, nm_m68, nm_m69, nm_m70, nm_m71, nm_m72, nm_m73, nm_m74, nm_m75, nm_m76, nm_m77, nm_m78, nm_m79], nm_Wd M ∧ plainName (px_nm M).cls = true := List.forall_mem_cons.mpr ⟨⟨nm_wd_m60, nm_f60.2.2⟩, List.forall_mem_cons.mpr ⟨⟨nm_wd_m61, nm_f61.2.2⟩, List.forall_mem_cons.mpr ⟨⟨nm_wd_m62, nm_f62.2.2⟩, List.forall_mem_cons.mpr ⟨⟨nm_wd_m63, nm_f63.2.2⟩, List.forall_mem_cons.mpr ⟨⟨nm_wd_m64, nm_f64.2.2⟩, List.forall_mem_cons.mpr ⟨⟨nm_wd_m65, nm_f65.2.2⟩, List.forall_mem_cons.mpr ⟨⟨nm_wd_m66, nm_f66.2.2⟩, List.forall_mem_cons.mpr ⟨⟨nm_wd_m67, nm_f67.2.2⟩, List.forall_mem_cons.mpr ⟨⟨nm_wd_m68, nm_f68.2.2⟩, List.forall_mem_cons.mpr ⟨⟨nm_wd_m69, nm_f69.2.2⟩, List.forall_mem_cons.mpr ⟨⟨nm_wd_m70, nm_f70.2.2⟩, List.forall_mem_cons.mpr ⟨⟨nm_wd_m71, nm_f71.2.2⟩, List.forall_mem_cons.mpr ⟨⟨nm_wd_m72, nm_f72.2.2⟩, List.forall_mem_cons.mpr ⟨⟨nm_wd_m73, nm_f73.2.2⟩, List.forall_mem_cons.mpr ⟨⟨nm_wd_m74, nm_f74.2.2⟩, List.forall_mem_cons.mpr ⟨⟨nm_wd_m75, nm_f75.2.2⟩, List.forall_mem_cons.mpr ⟨⟨nm_wd_m76, nm_f76.2.2⟩, List.forall_mem_cons.mpr ⟨⟨nm_wd_m77, nm_f77.2.2⟩, List.forall_mem_cons.mpr ⟨⟨nm_wd_m78, nm_f78.2.2⟩, List.forall_mem_cons.mpr ⟨⟨nm_wd_m79, nm_f79.2.2⟩, fun _ h => absurd h List.not_mem_nil⟩⟩⟩⟩⟩⟩⟩⟩⟩⟩⟩⟩⟩⟩⟩⟩⟩⟩⟩⟩
theorem nm_G3_ok : ∀ q ∈ [(nm_m60, 1, 1, 7), (nm_m61, 1, 1, 7), (nm_m62, 1, 0, 7), (nm_m63, 1, 0, 7), (nm_m64, 1, 1, 7), (nm_m65, 2, 0, 8), (nm_m66, 1, 1, 8), (nm_m67, 0, 1, 8), (nm_m68, 1, 2, 8), (nm_m69, 1, 3, 8), (nm_m70, 1, 2, 8), (nm_m71, 0, 2, 8), (nm_m72, 1, 4, 8), (nm_m73, 0, 1, 8), (nm_m74, 1, 2, 8), (nm_m75, 1, 2, 8), (nm_m76, 1, 3, 8), (nm_m77, 1, 1, 8), (nm_m78, 1, 1, 8), (nm_m79, 1, 1, 8)], nm_Mq q := List.forall_mem_cons.mpr ⟨nm_g60, List.forall_mem_cons.mpr ⟨nm_g61, List.forall_mem_cons.mpr ⟨nm_g62, List.forall_mem_cons.mpr ⟨nm_g63, List.forall_mem_cons.mpr ⟨nm_g64, List.forall_mem_cons.mpr ⟨nm_g65, List.forall_mem_cons.mpr ⟨nm_g66, List.forall_mem_cons.mpr ⟨nm_g67, List.forall_mem_cons.mpr ⟨nm_g68, List.forall_mem_cons.mpr ⟨nm_g69, List.forall_mem_cons.mpr ⟨nm_g70, List.forall_mem_cons.mpr ⟨nm_g71, List.forall_mem_cons.mpr ⟨nm_g72, List.forall_mem_cons.mpr ⟨nm_g73, List.forall_mem_cons.mpr ⟨nm_g74, List.forall_mem_cons.mpr ⟨nm_g75, List.forall_mem_cons.mpr ⟨nm_g76, List.forall_mem_cons.mpr ⟨nm_g77, List.forall_mem_cons.mpr ⟨nm_g78, List.forall_mem_cons.mpr ⟨nm_g79, fun _ h => absurd h List.not_mem_nil⟩⟩⟩⟩⟩⟩⟩⟩⟩⟩⟩⟩⟩⟩⟩⟩⟩⟩⟩⟩
theorem nm_P4_ok : ∀ M ∈ [nm_m80, nm_m81, nm_m82, nm_m83, nm_m84, nm_m85, nm_m86, nm_m87, nm_m88, nm_m89, nm_m90, nm_m91, nm_m92, nm_m93, nm_m94, nm_m95, nm_m96, nm_m97, nm_m98, nm_m99], nm_Wd M ∧ plainName (px_nm M).cls = true := List.forall_mem_cons.mpr ⟨⟨nm_wd_m80, nm_f80.2.2⟩, List.forall_mem_cons.mpr ⟨⟨nm_wd_m81, nm_f81.2.2⟩, List.forall_mem_cons.mpr ⟨⟨nm_wd_m82, nm_f82.2.2⟩, List.forall_mem_cons.mpr ⟨⟨nm_wd_m83, nm_f83.2.2⟩, List.forall_mem_cons.mpr ⟨⟨nm_wd_m84, nm_f84.2.2⟩, List.forall_mem_cons.mpr ⟨⟨nm_wd_m85, nm_f85.2.2⟩, List.forall_mem_cons.mpr ⟨⟨nm_wd_m86, nm_f86.2.2⟩, List.forall_mem_cons.mpr ⟨⟨nm_wd_m87, nm_f87.2.2⟩, List.forall_mem_cons.mpr ⟨⟨nm_wd_m88, nm_f88.2.2⟩, List.forall_mem_cons.mpr ⟨⟨nm_wd_m89, nm_f89.2.2⟩, List.forall_mem_cons.mpr ⟨⟨nm_wd_m90, nm_f90.2.2⟩, List.forall_mem_cons.mpr ⟨⟨nm_wd_m91, nm_f91.2.2⟩, List.forall_mem_cons.mpr ⟨⟨nm_wd_m92, nm_f92.2.2⟩, List.forall_mem_cons.mpr ⟨⟨nm_wd_m93, nm_f93.2.2⟩, List.forall_mem_cons.mpr ⟨⟨nm_wd_m94, nm_f94.2.2⟩, List.forall_mem_cons.mpr ⟨⟨nm_wd_m95, nm_f95.2.2⟩, List.forall_mem_cons.mpr ⟨⟨nm_wd_m96, nm_f96.2.2⟩, List.forall_mem_cons.mpr ⟨⟨nm_wd_m97, nm_f97.2.2⟩, List.forall_mem_cons.mpr ⟨⟨nm_wd_m98, nm_f98.2.2⟩, List.forall_mem_cons.mpr ⟨⟨nm_wd_m99, nm_f99.2.2⟩, fun _ h => absurd h List.not_mem_nil⟩⟩⟩⟩⟩⟩⟩⟩⟩⟩⟩⟩⟩⟩⟩⟩⟩⟩⟩⟩
theorem nm_G4_ok : ∀ q ∈ [(nm_m80, 1, 0, 8), (nm_m81, 1, 1, 8), (nm_m82, 1, 0, 8), (nm_m83, 1, 0, 8), (nm_m84, 1, 1, 8), (nm_m85, 1, 1, 8), (nm_m86, 1, 0, 8), (nm_m87, 0, 2, 8), (nm_m88, 0, 2, 8), (nm_m89, 1, 2, 8), (nm_m90, 1, 2, 8), (nm_m91, 1, 2, 8), (nm_m92, 1, 0, 8), (nm_m93, 1, 2, 8), (nm_m94, 1, 1, 8), (nm_m95, 1, 1, 8), (nm_m96, 1, 3, 8), (nm_m97, 1, 2, 8), (nm_m98, 1, 1, 8), (nm_m99, 1, 1, 8)], nm_Mq q := List.forall_mem_cons.mpr ⟨nm_g80, List.forall_mem_cons.mpr ⟨nm_g81, List.forall_mem_cons.mpr ⟨nm_g82, List.forall_mem_cons.mpr ⟨nm_g83, List.forall_mem_cons.mpr ⟨nm_g84, List.forall_mem_cons.mpr ⟨nm_g85, List.forall_mem_cons.mpr ⟨nm_g86, List.forall_mem_cons.mpr ⟨nm_g87, List.forall_mem_cons.mpr ⟨nm_g88, List.forall_mem_cons.mpr ⟨nm_g89, List.forall_mem_cons.mpr ⟨nm_g90, List.forall_mem_cons.mpr ⟨nm_g91, List.forall_mem_cons.mpr ⟨nm_g92, List.forall_mem_cons.mpr ⟨nm_g93, List.forall_mem_cons.mpr ⟨nm_g94, List.forall_mem_cons.mpr ⟨nm_g95, List.forall_mem_cons.mpr ⟨nm_g96, List.forall_mem_cons.mpr ⟨nm_g97, List.forall_mem_cons.mpr ⟨nm_g98, List.forall_mem_cons.mpr ⟨nm_g99, fun _ h => absurd h List.not_mem_nil⟩⟩⟩⟩⟩⟩⟩⟩⟩⟩⟩⟩⟩⟩⟩⟩⟩⟩⟩⟩
theorem nm_P5_ok : ∀ M ∈ [nm_m100, nm_m101, nm_m102, nm_m103, nm_m104, nm_m105, nm_m106, nm_m107, nm_m108, nm_m109, nm_m110, nm_m111, nm_m112, nm_m113, nm_m114, nm_m115, nm_m116, nm_m117, nm_m118, nm_m119], nm_Wd M ∧ plainName (px_nm M).cls = true := List.forall_mem_cons.mpr ⟨⟨nm_wd_m100, nm_f100.2.2⟩, List.forall_mem_cons.mpr ⟨⟨nm_wd_m101, nm_f101.2.2⟩, List.forall_mem_cons.mpr ⟨⟨nm_wd_m102, nm_f102.2.2⟩, List.forall_mem_cons.mpr ⟨⟨nm_wd_m103, nm_f103.2.2⟩, List.forall_mem_cons.mpr ⟨⟨nm_wd_m104, nm_f104.2.2⟩, List.forall_mem_cons.mpr ⟨⟨nm_wd_m105, nm_f105.2.2⟩, List.forall_mem_cons.mpr ⟨⟨nm_wd_m106, nm_f106.2.2⟩, List.forall_mem_cons.mpr ⟨⟨nm_wd_m107, nm_f107.2.2⟩, List.forall_mem_cons.mpr ⟨⟨nm_wd_m108, nm_f108.2.2⟩, List.forall_mem_cons.mpr ⟨⟨nm_wd_m109, nm_f109.2.2⟩, List.forall_mem_cons.mpr ⟨⟨nm_wd_m110, nm_f110.2.2⟩, List.forall_mem_cons.mpr ⟨⟨nm_wd_m111, nm_f111.2.2⟩, List.forall_mem_cons.mpr ⟨⟨nm_wd_m112, nm_f112.2.2⟩, List.forall_mem_cons.mpr ⟨⟨nm_wd_m113, nm_f113.2.2⟩, List.forall_mem_cons.mpr ⟨⟨nm_wd_m114, nm_f114.2.2⟩, List.forall_mem_cons.mpr ⟨⟨nm_wd_m115, nm_f115.2.2⟩, List.forall_mem_cons.mpr ⟨⟨nm_wd_m116, nm_f116.2.2⟩, List.forall_mem_cons.mpr ⟨⟨nm_wd_m117, nm_f117.2.2⟩, List.forall_mem_cons.mpr ⟨⟨nm_wd_m118, nm_f118.2.2⟩, List.forall_mem_cons.mpr ⟨⟨nm_wd_m119, nm_f119.2.2⟩, fun _ h => absurd h List.not_mem_nil⟩⟩⟩⟩⟩⟩⟩⟩⟩⟩⟩⟩⟩⟩⟩⟩⟩⟩⟩⟩
theorem nm_G5_ok : ∀ q ∈ [(nm_m100, 1, 1, 8), (nm_m101, 1, 1, 8), (nm_m102, 1, 2, 8), (nm_m103, 1, 1, 8), (nm_m104, 1, 2, 8), (nm_m105, 1, 2, 8), (nm_m106, 1, 0, 8), (nm_m107, 1, 2, 8), (nm_m108, 0, 1, 8), (nm_m109, 1, 3, 8), (nm_m110, 1, 2, 8), (nm_m111, 1, 3, 8), (nm_m112, 1, 5, 8), (nm_m113, 1, 4, 8), (nm_m114, 1, 4, 8), (nm_m115, 1, 2, 8), (nm_m116, 1, 2, 8), (nm_m117, 1, 1, 8), (nm_m118, 1, 0, 8), (nm_m119, 1, 0, 8)], nm_Mq q := List.forall_mem_cons.mpr ⟨nm_g100, List.forall_mem_cons.mpr ⟨nm_g101, List.forall_mem_cons.mpr ⟨nm_g102, List.forall_mem_cons.mpr ⟨nm_g103, List.forall_mem_cons.mpr ⟨nm_g104, List.forall_mem_cons.mpr ⟨nm_g105, List.forall_mem_cons.mpr ⟨nm_g106, List.forall_mem_cons.mpr ⟨nm_g107, List.forall_mem_cons.mpr ⟨nm_g108, List.forall_mem_cons.mpr ⟨nm_g109, List.forall_mem_cons.mpr ⟨nm_g110, List.forall_mem_cons.mpr ⟨nm_g111, List.forall_mem_cons.mpr ⟨nm_g112, List.forall_mem_cons.mpr ⟨nm_g113, List.forall_mem_cons.mpr ⟨nm_g114, List.forall_mem_cons.mpr ⟨nm_g115, List.forall_mem_cons.mpr ⟨nm_g116, List.forall_mem_cons.mpr ⟨nm_g117, List.forall_mem_cons.mpr ⟨nm_g118, List.forall_mem_cons.mpr ⟨nm_g119, fun _ h => absurd h List.not_mem_nil⟩⟩⟩⟩⟩⟩⟩⟩⟩⟩⟩⟩⟩⟩⟩⟩⟩⟩⟩⟩
theorem nm_P6_ok : ∀ M ∈ [nm_m120, nm_m121, nm_m122, nm_m123, nm_m124, nm_m125, nm_m126, nm_m127, nm_m128, nm_m129, nm_m130, nm_m131, nm_m132, nm_m133, nm_m134, nm_m135, nm_m136, nm_m137, nm_m138, nm_m139], nm_Wd M ∧ plainName (px_nm M).cls = true := List.forall_mem_cons.mpr ⟨⟨nm_wd_m120, nm_f120.2.2⟩, List.forall_mem_cons.mpr ⟨⟨nm_wd_m121, nm_f121.2.2⟩, List.forall_mem_cons.mpr ⟨⟨nm_wd_m122, nm_f122.2.2⟩, List.forall_mem_cons.mpr ⟨⟨nm_wd_m123, nm_f123.2.2⟩, List.forall_mem_cons.mpr ⟨⟨nm_wd_m124, nm_f124.2.2⟩, List.forall_mem_cons.mpr ⟨⟨nm_wd_m125, nm_f125.2.2⟩, List.forall_mem_cons.mpr ⟨⟨nm_wd_m126, nm_f126.2.2⟩, List.forall_mem_cons.mpr ⟨⟨nm_wd_m127, nm_f127.2.2⟩, List.forall_mem_cons.mpr ⟨⟨nm_wd_m128, nm_f128.2.2⟩, List.forall_mem_cons.mpr ⟨⟨nm_wd_m129, nm_f129.2.2⟩, List.forall_mem_cons.mpr ⟨⟨nm_wd_m130, nm_f130.2.2⟩, List.forall_mem_cons.mpr ⟨⟨nm_wd_m131, nm_f131.2.2⟩, List.forall_mem_cons.mpr ⟨⟨nm_wd_m132, nm_f132.2.2⟩, List.forall_mem_cons.mpr ⟨⟨nm_wd_m133, nm_f133.2.2⟩, List.forall_mem_cons.mpr ⟨⟨nm_wd_m134, nm_f134.2.2⟩, List.forall_mem_cons.mpr ⟨⟨nm_wd_m135, nm_f135.2.2⟩, List.forall_mem_cons.mpr ⟨⟨nm_wd_m136, nm_f136.2.2⟩, List.forall_mem_cons.mpr ⟨⟨nm_wd_m137, nm_f137.2.2⟩, List.forall_mem_cons.mpr ⟨⟨nm_wd_m138, nm_f138.2.2⟩, List.forall_mem_cons.mpr ⟨⟨nm_wd_m139, nm_f139.2.2⟩, fun _ h => absurd h List.not_mem_nil⟩⟩⟩⟩⟩⟩⟩⟩⟩⟩⟩⟩⟩⟩⟩⟩⟩⟩⟩⟩
theorem nm_G6_ok : ∀ q ∈ [(nm_m120, 1, 2, 8), (nm_m121, 1, 0, 8), (nm_m122, 1, 1, 8), (nm_m123, 1, 1, 8), (nm_m124, 1, 1, 8), (nm_m125, 1, 1, 8), (nm_m126, 1, 1, 8), (nm_m127, 1, 0, 9), (nm_m128, 0, 3, 9), (nm_m129, 0, 2, 9), (nm_m130, 0, 1, 9), (nm_m131, 1, 1, 9), (nm_m132, 1, 1, 9), (nm_m133, 1, 1, 9), (nm_m134, 1, 1, 9), (nm_m135, 1, 2, 9), (nm_m136, 1, 3, 9), (nm_m137, 1, 2, 9), (nm_m138, 1, 4, 9), (nm_m139, 0, 1, 9)], nm_Mq q := List.forall_mem_cons.mpr ⟨nm_g120, List.forall_mem_cons.mpr ⟨nm_g121, List.forall_mem_cons.mpr ⟨nm_g122, List.forall_mem_cons.mpr ⟨nm_g123, List.forall_mem_cons.mpr ⟨nm_g124, List.forall_mem_cons.mpr ⟨nm_g125, List.forall_mem_cons.mpr ⟨nm_g126, List.forall_mem_cons.mpr ⟨nm_g127, List.forall_mem_cons.mpr ⟨nm_g128, List.forall_mem_cons.mpr ⟨nm_g129, List.forall_mem_cons.mpr ⟨nm_g130, List.forall_mem_cons.mpr ⟨nm_g131, List.forall_mem_cons.mpr ⟨nm_g132, List.forall_mem_cons.mpr ⟨nm_g133, List.forall_mem_cons.mpr ⟨nm_g134, List.forall_mem_cons.mpr ⟨nm_g135, List.forall_mem_cons.mpr ⟨nm_g136, List.forall_mem_cons.mpr ⟨nm_g137, List.forall_mem_cons.mpr ⟨nm_g138, List.forall_mem_cons.mpr ⟨nm_g139, fun _ h => absurd h List.not_mem_nil⟩⟩⟩⟩⟩⟩⟩⟩⟩⟩⟩⟩⟩⟩⟩⟩⟩⟩⟩⟩
theorem nm_P7_ok : ∀ M ∈ [nm_m140, nm_m141, nm_m142, nm_m143, nm_m144, nm_m145, nm_m146, nm_m147, nm_m148, nm_m149, nm_m150, nm_m151, nm_m152, nm_m153, nm_m154, nm_m155, nm_m156, nm_m157, nm_m158, nm_m159], nm_Wd M ∧ plainName (px_nm M).cls = true := List.forall_mem_cons.mpr ⟨⟨nm_wd_m140, nm_f140.2.2⟩, List.forall_mem_cons.mpr ⟨⟨nm_wd_m141, nm_f141.2.2⟩, List.forall_mem_cons.mpr ⟨⟨nm_wd_m142, nm_f142.2.2⟩, List.forall_mem_cons.mpr ⟨⟨nm_wd_m143, nm_f143.2.2⟩, List.forall_mem_cons.mpr ⟨⟨nm_wd_m144, nm_f144.2.2⟩, List.forall_mem_cons.mpr ⟨⟨nm_wd_m145, nm_f145.2.2⟩, List.forall_mem_cons.mpr ⟨⟨nm_wd_m146, nm_f146.2.2⟩, List.forall_mem_cons.mpr ⟨⟨nm_wd_m147, nm_f147.2.2⟩, List.forall_mem_cons.mpr ⟨⟨nm_wd_m148, nm_f148.2.2⟩, List.forall_mem_cons.mpr ⟨⟨nm_wd_m149, nm_f149.2.2⟩, List.forall_mem_cons.mpr ⟨⟨nm_wd_m150, nm_f150.2.2⟩, List.forall_mem_cons.mpr ⟨⟨nm_wd_m151, nm_f151.2.2⟩, List.forall_mem_cons.mpr ⟨⟨nm_wd_m152, nm_f152.2.2⟩, List.forall_mem_cons.mpr ⟨⟨nm_wd_m153, nm_f153.2.2⟩, List.forall_mem_cons.mpr ⟨⟨nm_wd_m154, nm_f154.2.2⟩, List.forall_mem_cons.mpr ⟨⟨nm_wd_m155, nm_f155.2.2⟩, List.forall_mem_cons.mpr ⟨⟨nm_wd_m156, nm_f156.2.2⟩, List.forall_mem_cons.mpr ⟨⟨nm_wd_m157, nm_f157.2.2⟩, List.forall_mem_cons.mpr ⟨⟨nm_wd_m158, nm_f158.2.2⟩, List.forall_mem_cons.mpr ⟨⟨nm_wd_m159, nm_f159.2.2⟩, fun _ h => absurd h List.not_mem_nil⟩⟩⟩⟩⟩⟩⟩⟩⟩⟩⟩⟩⟩⟩⟩⟩⟩⟩⟩⟩
theorem nm_G7_ok : ∀ q ∈ [(nm_m140, 1, 2, 9), (nm_m141, 1, 2, 9), (nm_m142, 1, 3, 9), (nm_m143, 1, 1, 9), (nm_m144, 1, 1, 9), (nm_m145, 1, 1, 9), (nm_m146, 1, 0, 9), (nm_m147, 1, 1, 9), (nm_m148, 1, 0, 9), (nm_m149, 1, 1, 9), (nm_m150, 1, 2, 9), (nm_m151, 1, 3, 9), (nm_m152, 1, 2, 9), (nm_m153, 1, 1, 9), (nm_m154, 1, 1, 9), (nm_m155, 1, 2, 9), (nm_m156, 1, 1, 9), (nm_m157, 1, 0, 9), (nm_m158, 1, 0, 9), (nm_m159, 1, 0, 9)], nm_Mq q := List.forall_mem_cons.mpr ⟨nm_g140, List.forall_mem_cons.mpr ⟨nm_g141, List.forall_mem_cons.mpr ⟨nm_g142, List.forall_mem_cons.mpr ⟨nm_g143, List.forall_mem_cons.mpr ⟨nm_g144, List.forall_mem_cons.mpr ⟨nm_g145, List.forall_mem_cons.mpr ⟨nm_g146, List.forall_mem_cons.mpr ⟨nm_g147, List.forall_mem_cons.mpr ⟨nm_g148, List.forall_mem_cons.mpr ⟨nm_g149, List.forall_mem_cons.mpr ⟨nm_g150, List.forall_mem_cons.mpr ⟨nm_g151, List.forall_mem_cons.mpr ⟨nm_g152, List.forall_mem_cons.mpr ⟨nm_g153, List.forall_mem_cons.mpr ⟨nm_g154, List.forall_mem_cons.mpr ⟨nm_g155, List.forall_mem_cons.mpr ⟨nm_g156, List.forall_mem_cons.mpr ⟨nm_g157, List.forall_mem_cons.mpr ⟨nm_g158, List.forall_mem_cons.mpr ⟨nm_g159, fun _ h => absurd h List.not_mem_nil⟩⟩⟩⟩⟩⟩⟩⟩⟩⟩⟩⟩⟩⟩⟩⟩⟩⟩⟩⟩
theorem nm_P8_ok : ∀ M ∈ [nm_m160, nm_m161, nm_m162, nm_m163, nm_m164, nm_m165, nm_m166, nm_m167, nm_m168, nm_m169, nm_m170, nm_m171, nm_m172, nm_m173, nm_m174, nm_m175, nm_m176, nm_m177, nm_m178, nm_m179], nm_Wd M ∧ plainName (px_nm M).cls = true := List.forall_mem_cons.mpr ⟨⟨nm_wd_m160, nm_f160.2.2⟩, List.forall_mem_cons.mpr ⟨⟨nm_wd_m161, nm_f161.2.2⟩, List.forall_mem_cons.mpr ⟨⟨nm_wd_m162, nm_f162.2.2⟩, List.forall_mem_cons.mpr ⟨⟨nm_wd_m163, nm_f163.2.2⟩, List.forall_mem_cons.mpr ⟨⟨nm_wd_m164, nm_f164.2.2⟩, List.forall_mem_cons.mpr ⟨⟨nm_wd_m165, nm_f165.2.2⟩, List.forall_mem_cons.mpr ⟨⟨nm_wd_m166, nm_f166.2.2⟩, List.forall_mem_cons.mpr ⟨⟨nm_wd_m167, nm_f167.2.2⟩, List.forall_mem_cons.mpr ⟨⟨nm_wd_m168, nm_f168.2.2⟩, List.forall_mem_cons.mpr ⟨⟨nm_wd_m169, nm_f169.2.2⟩, List.forall_mem_cons.mpr ⟨⟨nm_wd_m170, nm_f170.2.2⟩, List.forall_mem_cons.mpr ⟨⟨nm_wd_m171, nm_f171.2.2⟩, List.forall_mem_cons.mpr ⟨⟨nm_wd_m172, nm_f172.2.2⟩, List.forall_mem_cons.mpr ⟨⟨nm_wd_m173, nm_f173.2.2⟩, List.forall_mem_cons.mpr ⟨⟨nm_wd_m174, nm_f174.2.2⟩, List.forall_mem_cons.mpr ⟨⟨nm_wd_m175, nm_f175.2.2⟩, List.forall_mem_cons.mpr ⟨⟨nm_wd_m176, nm_f176.2.2⟩, List.forall_mem_cons.mpr ⟨⟨nm_wd_m177, nm_f177.2.2⟩, List.forall_mem_cons.mpr ⟨⟨nm_wd_m178, nm_f178.2.2⟩, List.forall_mem_cons.mpr ⟨⟨nm_wd_m179, nm_f179.2.2⟩, fun _ h => absurd h List.not_mem_nil⟩⟩⟩⟩⟩⟩⟩⟩⟩⟩⟩⟩⟩⟩⟩⟩⟩⟩⟩⟩
theorem nm_G8_ok : ∀ q ∈ [(nm_m160, 1, 2, 9), (nm_m161, 1, 0, 9), (nm_m162, 1, 0, 9), (nm_m163, 1, 1, 9), (nm_m164, 0, 2, 9), (nm_m165, 1, 1, 9), (nm_m166, 1, 0, 9), (nm_m167, 1, 2, 9), (nm_m168, 1, 2, 9), (nm_m169, 1, 2, 9), (nm_m170, 1, 0, 9), (nm_m171, 1, 2, 9), (nm_m172, 1, 1, 9), (nm_m173, 1, 1, 9), (nm_m174, 0, 2, 9), (nm_m175, 1, 2, 9), (nm_m176, 1, 2, 9), (nm_m177, 1, 1, 9), (nm_m178, 1, 2, 9), (nm_m179, 1, 2, 9)], nm_Mq q := List.forall_mem_cons.mpr ⟨nm_g160, List.forall_mem_cons.mpr ⟨nm_g161, List.forall_mem_cons.mpr ⟨nm_g162, List.forall_mem_cons.mpr ⟨nm_g163, List.forall_mem_cons.mpr ⟨nm_g164, List.forall_mem_cons.mpr ⟨nm_g165, List.forall_mem_cons.mpr ⟨nm_g166, List.forall_mem_cons.mpr ⟨nm_g167, List.forall_mem_cons.mpr ⟨nm_g168, List.forall_mem_cons.mpr ⟨nm_g169, List.forall_mem_cons.mpr ⟨nm_g170, List.forall_mem_cons.mpr ⟨nm_g171, List.forall_mem_cons.mpr ⟨nm_g172, List.forall_mem_cons.mpr ⟨nm_g173, List.forall_mem_cons.mpr ⟨nm_g174, List.forall_mem_cons.mpr ⟨nm_g175, List.forall_mem_cons.mpr ⟨nm_g176, List.forall_mem_cons.mpr ⟨nm_g177, List.forall_mem_cons.mpr ⟨nm_g178, List.forall_mem_cons.mpr ⟨nm_g179, fun _ h => absurd h List.not_mem_nil⟩⟩⟩⟩⟩⟩⟩⟩⟩⟩⟩⟩⟩⟩⟩⟩⟩⟩⟩⟩
theorem nm_P9_ok : ∀ M ∈ [nm_m180, nm_m181, nm_m182, nm_m183, nm_m184, nm_m185, nm_m186, nm_m187, nm_m188, nm_m189, nm_m190, nm_m191, nm_m192, nm_m193, nm_m194, nm_m195, nm_m196, nm_m197, nm_m198, nm_m199], nm_Wd M ∧ plainName (px_nm M).cls = true := List.forall_mem_cons.mpr ⟨⟨nm_wd_m180, nm_f180.2.2⟩, List.forall_mem_cons.mpr ⟨⟨nm_wd_m181, nm_f181.2.2⟩, List.forall_mem_cons.mpr ⟨⟨nm_wd_m182, nm_f182.2.2⟩, List.forall_mem_cons.mpr ⟨⟨nm_wd_m183, nm_f183.2.2⟩, List.forall_mem_cons.mpr ⟨⟨nm_wd_m184, nm_f184.2.2⟩, List.forall_mem_cons.mpr ⟨⟨nm_wd_m185, nm_f185.2.2⟩, List.forall_mem_cons.mpr ⟨⟨nm_wd_m186, nm_f186.2.2⟩, List.forall_mem_cons.mpr ⟨⟨nm_wd_m187, nm_f187.2.2⟩, List.forall_mem_cons.mpr ⟨⟨nm_wd_m188, nm_f188.2.2⟩, List.forall_mem_cons.mpr ⟨⟨nm_wd_m189, nm_f189.2.2⟩, List.forall_mem_cons.mpr ⟨⟨nm_wd_m190, nm_f190.2.2⟩, List.forall_mem_cons.mpr ⟨⟨nm_wd_m191, nm_f191.2.2⟩, List.forall_mem_cons.mpr ⟨⟨nm_wd_m192, nm_f192.2.2⟩, List.forall_mem_cons.mpr ⟨⟨nm_wd_m193, nm_f193.2.2⟩, List.forall_mem_cons.mpr ⟨⟨nm_wd_m194, nm_f194.2.2⟩, List.forall_mem_cons.mpr ⟨⟨nm_wd_m195, nm_f195.2.2⟩, List.forall_mem_cons.mpr ⟨⟨nm_wd_m196, nm_f196.2.2⟩, List.forall_mem_cons.mpr ⟨⟨nm_wd_m197, nm_f197.2.2⟩, List.forall_mem_cons.mpr ⟨⟨nm_wd_m198, nm_f198.2.2⟩, List.forall_mem_cons.mpr ⟨⟨nm_wd_m199, nm_f199.2.2⟩, fun _ h => absurd h List.not_mem_nil⟩⟩⟩⟩⟩⟩⟩⟩⟩⟩⟩⟩⟩⟩⟩⟩⟩⟩⟩⟩
theorem nm_G9_ok : ∀ q ∈ [(nm_m180, 1, 1, 9), (nm_m181, 1, 1, 9), (nm_m182, 1, 1, 9), (nm_m183, 1, 2, 9), (nm_m184, 1, 1, 9), (nm_m185, 1, 1, 9), (nm_m186, 1, 1, 9), (nm_m187, 1, 1, 9), (nm_m188, 1, 1, 9), (nm_m189, 1, 2, 9), (nm_m190, 1, 1, 9), (nm_m191, 1, 1, 9), (nm_m192, 1, 1, 9), (nm_m193, 1, 1, 9), (nm_m194, 1, 1, 9), (nm_m195, 1, 1, 9), (nm_m196, 1, 2, 9), (nm_m197, 1, 1, 9), (nm_m198, 1, 0, 9), (nm_m199, 1, 0, 9)], nm_Mq q := List.forall_mem_cons.mpr ⟨nm_g180, List.forall_mem_cons.mpr ⟨nm_g181, List.forall_mem_cons.mpr ⟨nm_g182, List.forall_mem_cons.mpr ⟨nm_g183, List.forall_mem_cons.mpr ⟨nm_g184, List.forall_mem_cons.mpr ⟨nm_g185, List.forall_mem_cons.mpr ⟨nm_g186, List.forall_mem_cons.mpr ⟨nm_g187, List.forall_mem_cons.mpr ⟨nm_g188, List.forall_mem_cons.mpr ⟨nm_g189, List.forall_mem_cons.mpr ⟨nm_g190, List.forall_mem_cons.mpr ⟨nm_g191, List.forall_mem_cons.mpr ⟨nm_g192, List.forall_mem_cons.mpr ⟨nm_g193, List.forall_mem_cons.mpr ⟨nm_g194, List.forall_mem_cons.mpr ⟨nm_g195, List.forall_mem_cons.mpr ⟨nm_g196, List.forall_mem_cons.mpr ⟨nm_g197, List.forall_mem_cons.mpr ⟨nm_g198, List.forall_mem_cons.mpr ⟨nm_g199, fun _ h => absurd h List.not_mem_nil⟩⟩⟩⟩⟩⟩⟩⟩⟩⟩⟩⟩⟩⟩⟩⟩⟩⟩⟩⟩
theorem nm_P10_ok : ∀ M ∈ [nm_m200, nm_m201, nm_m202, nm_m203, nm_m204, nm_m205, nm_m206, nm_m207, nm_m208, nm_m209, nm_m210, nm_m211, nm_m212, nm_m213, nm_m214, nm_m215, nm_m216, nm_m217, nm_m218, nm_m219], nm_Wd M ∧ plainName (px_nm M).cls = true := List.forall_mem_cons.mpr ⟨⟨nm_wd_m200, nm_f200.2.2⟩, List.forall_mem_cons.mpr ⟨⟨nm_wd_m201, nm_f201.2.2⟩, List.forall_mem_cons.mpr ⟨⟨nm_wd_m202, nm_f202.2.2⟩, List.forall_mem_cons.mpr ⟨⟨nm_wd_m203, nm_f203.2.2⟩, List.forall_mem_cons.mpr ⟨⟨nm_wd_m204, nm_f204.2.2⟩, List.forall_mem_cons.mpr ⟨⟨nm_wd_m205, nm_f205.2.2⟩, List.forall_mem_cons.mpr ⟨⟨nm_wd_m206, nm_f206.2.2⟩, List.forall_mem_cons.mpr ⟨⟨nm_wd_m207, nm_f207.2.2⟩, List.forall_mem_cons.mpr ⟨⟨nm_wd_m208, nm_f208.2.2⟩, List.forall_mem_cons.mpr ⟨⟨nm_wd_m209, nm_f209.2.2⟩, List.forall_mem_cons.mpr ⟨⟨nm_wd_m210, nm_f210.2.2⟩, List.forall_mem_cons.mpr ⟨⟨nm_wd_m211, nm_f211.2.2⟩, List.forall_mem_cons.mpr ⟨⟨nm_wd_m212, nm_f212.2.2⟩, List.forall_mem_cons.mpr ⟨⟨nm_wd_m213, nm_f213.2.2⟩, List.forall_mem_cons.mpr ⟨⟨nm_wd_m214, nm_f214.2.2⟩, List.forall_mem_cons.mpr ⟨⟨nm_wd_m215, nm_f215.2.2⟩, List.forall_mem_cons.mpr ⟨⟨nm_wd_m216, nm_f216.2.2⟩, List.forall_mem_cons.mpr ⟨⟨nm_wd_m217, nm_f217.2.2⟩, List.forall_mem_cons.mpr ⟨⟨nm_wd_m218, nm_f218.2.2⟩, List.forall_mem_cons.mpr ⟨⟨nm_wd_m219, nm_f219.2.2⟩, fun _ h => absurd h List.not_mem_nil⟩⟩⟩⟩⟩⟩⟩⟩⟩⟩⟩⟩⟩⟩⟩⟩⟩⟩⟩⟩
theorem nm_G10_ok : ∀ q ∈ [(nm_m200, 1, 2, 9), (nm_m201, 1, 2, 9), (nm_m202, 1, 0, 9), (nm_m203, 1, 3, 9), (nm_m204, 1, 3, 9), (nm_m205, 1, 3, 9), (nm_m206, 1, 5, 9), (nm_m207, 1, 4, 9), (nm_m208, 1, 1, 9), (nm_m209, 1, 4, 9), (nm_m210, 1, 2, 9), (nm_m211, 1, 1, 9), (nm_m212, 1, 2, 9), (nm_m213, 1, 1, 9), (nm_m214, 1, 0, 9), (nm_m215, 1, 1, 9), (nm_m216, 1, 2, 9), (nm_m217, 1, 2, 9), (nm_m218, 1, 0, 9), (nm_m219, 1, 1, 9)], nm_Mq q := List.forall_mem_cons.mpr ⟨nm_g200, List.forall_mem_cons.mpr ⟨nm_g201, List.forall_mem_cons.mpr ⟨nm_g202, List.forall_mem_cons.mpr ⟨nm_g203, List.forall_mem_cons.mpr ⟨nm_g204, List.forall_mem_cons.mpr ⟨nm_g205, List.forall_mem_cons.mpr ⟨nm_g206, List.forall_mem_cons.mpr ⟨nm_g207, List.forall_mem_cons.mpr ⟨nm_g208, List.forall_mem_cons.mpr ⟨nm_g209, List.forall_mem_cons.mpr ⟨nm_g210, List.forall_mem_cons.mpr ⟨nm_g211, List.forall_mem_cons.mpr ⟨nm_g212, List.forall_mem_cons.mpr ⟨nm_g213, List.forall_mem_cons.mpr ⟨nm_g214, List.forall_mem_cons.mpr ⟨nm_g215, List.forall_mem_cons.mpr ⟨nm_g216, List.forall_mem_cons.mpr ⟨nm_g217, List.forall_mem_cons.mpr ⟨nm_g218, List.forall_mem_cons.mpr ⟨nm_g219, fun _ h => absurd h List.not_mem_nil⟩⟩⟩⟩⟩⟩⟩⟩⟩⟩⟩⟩⟩⟩⟩⟩⟩⟩⟩⟩
theorem nm_P11_ok : ∀ M ∈ [nm_m220, nm_m221, nm_m222, nm_m223, nm_m224, nm_m225], nm_Wd M ∧ plainName (px_nm M).cls = true := List.forall_mem_cons.mpr ⟨⟨nm_wd_m220, nm_f220.2.2⟩, List.forall_mem_cons.mpr ⟨⟨nm_wd_m221, nm_f221.2.2⟩, List.forall_mem_cons.mpr ⟨⟨nm_wd_m222, nm_f222.2.2⟩, List.forall_mem_cons.mpr ⟨⟨nm_wd_m223, nm_f223.2.2⟩, List.forall_mem_cons.mpr ⟨⟨nm_wd_m224, nm_f224.2.2⟩, List.forall_mem_cons.mpr ⟨⟨nm_wd_m225, nm_f225.2.2⟩, fun _ h => absurd h List.not_mem_nil⟩⟩⟩⟩⟩⟩
theorem nm_G11_ok : ∀ q ∈ [(nm_m220, 1, 1, 9), (nm_m221, 1, 1, 9), (nm_m222, 1, 0, 9), (nm_m223, 1, 1, 9), (nm_m224, 2, 0, 9), (nm_m225, 1, 1, 9)], nm_Mq q := List.forall_mem_cons.mpr ⟨nm_g220, List.forall_mem_cons.mpr ⟨nm_g221, List.forall_mem_cons.mpr ⟨nm_g222, List.forall_mem_cons.mpr ⟨nm_g223, List.forall_mem_cons.mpr ⟨nm_g224, List.forall_mem_cons.mpr ⟨nm_g225, fun _ h => absurd h List.not_mem_nil⟩⟩⟩⟩⟩⟩
set_option maxRecDepth 1000000 in
theorem nm_P_ok : ∀ M ∈ nm_P, nm_Wd M ∧ plainName (px_nm M).cls = true := by
  show ∀ M ∈ [nm_m0, nm_m1, nm_m2, nm_m3, nm_m4, nm_m5, nm_m6, nm_m7, nm_m8, nm_m9, nm_m10, nm_m11, nm_m12, nm_m13, nm_m14, nm_m15, nm_m16, nm_m17, nm_m18, nm_m19] ++ ([nm_m20, nm_m21, nm_m22, nm_m23, nm_m24, nm_m25, nm_m26, nm_m27, nm_m28, nm_m29, nm_m30, nm_m31, nm_m32, nm_m33, nm_m34, nm_m35, nm_m36, nm_m37, nm_m38, nm_m39] ++ ([nm_m40, nm_m41, nm_m42, nm_m43, nm_m44, nm_m45, nm_m46, nm_m47, nm_m48, nm_m49, nm_m50, nm_m51, nm_m52, nm_m53, nm_m54, nm_m55, nm_m56, nm_m57, nm_m58, nm_m59] ++ ([nm_m60, nm_m61, nm_m62, nm_m63, nm_m64, nm_m65, nm_m66, nm_m67, nm_m68, nm_m69, nm_m70, nm_m71, nm_m72, nm_m73, nm_m74, nm_m75, nm_m76, nm_m77, nm_m78, nm_m79] ++ ([nm_m80, nm_m81, nm_m82, nm_m83, nm_m84, nm_m85, nm_m86, nm_m87, nm_m88, nm_m89, nm_m90, nm_m91, nm_m92, nm_m93, nm_m94, nm_m95, nm_m96, nm_m97, nm_m98, nm_m99] ++ ([nm_m100, nm_m101, nm_m102, nm_m103, nm_m104, nm_m105, nm_m106, nm_m107, nm_m108, nm_m109, nm_m110, nm_m111, nm_m112, nm_m113, nm_m114, nm_m115, nm_m116, nm_m117, nm_m118, nm_m119] ++ ([nm_m120, nm_m121, nm_m122, nm_m123, nm_m124, nm_m125, nm_m126, nm_m127, nm_m128, nm_m129, nm_m130, nm_m131, nm_m132, nm_m133, nm_m134, nm_m135, nm_m136, nm_m137, nm_m138, nm_m139] ++ ([nm_m140, nm_m141, nm_m142, nm_m143, nm_m144, nm_m145, nm_m146, nm_m147, nm_m148, nm_m149, nm_m150, nm_m151, nm_m152, nm_m153, nm_m154, nm_m155, nm_m156, nm_m157, nm_m158, nm_m159] ++ ([nm_m160, nm_m161, nm_m162, nm_m163, nm_m164, nm_m165, nm_m166, nm_m167, nm_m168, nm_m169, nm_m170, nm_m171, nm_m172, nm_m173, nm_m174, nm_m175, nm_m176, nm_m177, nm_m178, nm_m179] ++ ([nm_m180, nm_m181, nm_m182, nm_m183, nm_m184, nm_m185, nm_m186, nm_m187, nm_m188, nm_m189, nm_m190, nm_m191, nm_m192, nm_m193, nm_m194, nm_m195, nm_m196, nm_m197, nm_m198, nm_m199] ++ ([nm_m200, nm_m201, nm_m202, nm_m203, nm_m204, nm_m205, nm_m206, nm_m207, nm_m208, nm_m209, nm_m210, nm_m211, nm_m212, nm_m213, nm_m214, nm_m215, nm_m216, nm_m217, nm_m218, nm_m219] ++ ([nm_m220, nm_m221, nm_m222, nm_m223, nm_m224, nm_m225]))))))))))), nm_Wd M ∧ plainName (px_nm M).cls = true
  exact List.forall_mem_append.mpr ⟨nm_P0_ok, List.forall_mem_append.mpr ⟨nm_P1_ok, List.forall_mem_append.mpr ⟨nm_P2_ok, List.forall_mem_append.mpr ⟨nm_P3_ok, List.forall_mem_append.mpr ⟨nm_P4_ok, List.forall_mem_append.mpr ⟨nm_P5_ok, List.forall_mem_append.mpr ⟨nm_P6_ok, List.forall_mem_append.mpr ⟨nm_P7_ok, List.forall_mem_append.mpr ⟨nm_P8_ok, List.forall_mem_append.mpr ⟨nm_P9_ok, List.forall_mem_append.mpr ⟨nm_P10_ok, nm_P11_ok⟩⟩⟩⟩⟩⟩⟩⟩⟩⟩⟩
set_option maxRecDepth 1000000 in
theorem nm_G_ok : ∀ q ∈ nm_P.zip nm_mf, nm_Mq q := by
  show ∀ q ∈ [(nm_m0, 2, 0, 0), (nm_m1, 1, 1, 0), (nm_m2, 1, 2, 0), (nm_m3, 1, 2, 0), (nm_m4, 1, 2, 0), (nm_m5, 1, 1, 0), (nm_m6, 1, 1, 1), (nm_m7, 1, 2, 1), (nm_m8, 1, 3, 1), (nm_m9, 1, 1, 1), (nm_m10, 1, 1, 0), (nm_m11, 0, 1, 0), (nm_m12, 1, 1, 0), (nm_m13, 1, 2, 0), (nm_m14, 1, 1, 0), (nm_m15, 2, 0, 3), (nm_m16, 2, 1, 1), (nm_m17, 1, 4, 1), (nm_m18, 1, 1, 6), (nm_m19, 1, 1, 6)] ++ ([(nm_m20, 1, 1, 6), (nm_m21, 1, 1, 6), (nm_m22, 1, 1, 6), (nm_m23, 1, 1, 1), (nm_m24, 1, 2, 1), (nm_m25, 1, 3, 1), (nm_m26, 2, 0, 2), (nm_m27, 1, 0, 2), (nm_m28, 1, 1, 2), (nm_m29, 1, 1, 2), (nm_m30, 1, 1, 3), (nm_m31, 2, 0, 4), (nm_m32, 0, 2, 4), (nm_m33, 1, 0, 4), (nm_m34, 1, 3, 4), (nm_m35, 1, 1, 4), (nm_m36, 2, 0, 5), (nm_m37, 1, 1, 5), (nm_m38, 1, 1, 5), (nm_m39, 0, 2, 5)] ++ ([(nm_m40, 1, 0, 5), (nm_m41, 2, 0, 6), (nm_m42, 1, 1, 6), (nm_m43, 1, 3, 6), (nm_m44, 1, 0, 6), (nm_m45, 1, 0, 6), (nm_m46, 1, 1, 6), (nm_m47, 1, 1, 6), (nm_m48, 2, 0, 7), (nm_m49, 1, 1, 7), (nm_m50, 1, 1, 7), (nm_m51, 1, 2, 7), (nm_m52, 1, 1, 7), (nm_m53, 1, 2, 7), (nm_m54, 1, 1, 7), (nm_m55, 1, 0, 7), (nm_m56, 1, 1, 7), (nm_m57, 0, 2, 8), (nm_m58, 1, 2, 7), (nm_m59, 1, 1, 7)] ++ ([(nm_m60, 1, 1, 7), (nm_m61, 1, 1, 7), (nm_m62, 1, 0, 7), (nm_m63, 1, 0, 7), (nm_m64, 1, 1, 7), (nm_m65, 2, 0, 8), (nm_m66, 1, 1, 8), (nm_m67, 0, 1, 8), (nm_m68, 1, 2, 8), (nm_m69, 1, 3, 8), (nm_m70, 1, 2, 8), (nm_m71, 0, 2, 8), (nm_m72, 1, 4, 8), (nm_m73, 0, 1, 8), (nm_m74, 1, 2, 8), (nm_m75, 1, 2, 8), (nm_m76, 1, 3, 8), (nm_m77, 1, 1, 8), (nm_m78, 1, 1, 8), (nm_m79, 1, 1, 8)] ++ ([(nm_m80, 1, 0, 8), (nm_m81, 1, 1, 8), (nm_m82, 1, 0, 8), (nm_m83, 1, 0, 8), (nm_m84, 1, 1, 8), (nm_m85, 1, 1, 8), (nm_m86, 1, 0, 8), (nm_m87, 0, 2, 8), (nm_m88, 0, 2, 8), (nm_m89, 1, 2, 8), (nm_m90, 1, 2, 8), (nm_m91, 1, 2, 8), (nm_m92, 1, 0, 8), (nm_m93, 1, 2, 8), (nm_m94, 1, 1, 8), (nm_m95, 1, 1, 8), (nm_m96, 1, 3, 8), (nm_m97, 1, 2, 8), (nm_m98, 1, 1, 8), (nm_m99, 1, 1, 8)] ++ ([(nm_m100, 1, 1, 8), (nm_m101, 1, 1, 8), (nm_m102, 1, 2, 8), (nm_m103, 1, 1, 8), (nm_m104, 1, 2, 8), (nm_m105, 1, 2, 8), (nm_m106, 1, 0, 8), (nm_m107, 1, 2, 8), (nm_m108, 0, 1, 8), (nm_m109, 1, 3, 8), (nm_m110, 1, 2, 8), (nm_m111, 1, 3, 8), (nm_m112, 1, 5, 8), (nm_m113, 1, 4, 8), (nm_m114, 1, 4, 8), (nm_m115, 1, 2, 8), (nm_m116, 1, 2, 8), (nm_m117, 1, 1, 8), (nm_m118, 1, 0, 8), (nm_m119, 1, 0, 8)] ++ ([(nm_m120, 1, 2, 8), (nm_m121, 1, 0, 8), (nm_m122, 1, 1, 8), (nm_m123, 1, 1, 8), (nm_m124, 1, 1, 8), (nm_m125, 1, 1, 8), (nm_m126, 1, 1, 8), (nm_m127, 1, 0, 9), (nm_m128, 0, 3, 9), (nm_m129, 0, 2, 9), (nm_m130, 0, 1, 9), (nm_m131, 1, 1, 9), (nm_m132, 1, 1, 9), (nm_m133, 1, 1, 9), (nm_m134, 1, 1, 9), (nm_m135, 1, 2, 9), (nm_m136, 1, 3, 9), (nm_m137, 1, 2, 9), (nm_m138, 1, 4, 9), (nm_m139, 0, 1, 9)] ++ ([(nm_m140, 1, 2, 9), (nm_m141, 1, 2, 9), (nm_m142, 1, 3, 9), (nm_m143, 1, 1, 9), (nm_m144, 1, 1, 9), (nm_m145, 1, 1, 9), (nm_m146, 1, 0, 9), (nm_m147, 1, 1, 9), (nm_m148, 1, 0, 9), (nm_m149, 1, 1, 9), (nm_m150, 1, 2, 9), (nm_m151, 1, 3, 9), (nm_m152, 1, 2, 9), (nm_m153, 1, 1, 9), (nm_m154, 1, 1, 9), (nm_m155, 1, 2, 9), (nm_m156, 1, 1, 9), (nm_m157, 1, 0, 9), (nm_m158, 1, 0, 9), (nm_m159, 1, 0, 9)] ++ ([(nm_m160, 1, 2, 9), (nm_m161, 1, 0, 9), (nm_m162, 1, 0, 9), (nm_m163, 1, 1, 9), (nm_m164, 0, 2, 9), (nm_m165, 1, 1, 9), (nm_m166, 1, 0, 9), (nm_m167, 1, 2, 9), (nm_m168, 1, 2, 9), (nm_m169, 1, 2, 9), (nm_m170, 1, 0, 9), (nm_m171, 1, 2, 9), (nm_m172, 1, 1, 9), (nm_m173, 1, 1, 9), (nm_m174, 0, 2, 9), (nm_m175, 1, 2, 9), (nm_m176, 1, 2, 9), (nm_m177, 1, 1, 9), (nm_m178, 1, 2, 9), (nm_m179, 1, 2, 9)] ++ ([(nm_m180, 1, 1, 9), (nm_m181, 1, 1, 9), (nm_m182, 1, 1, 9), (nm_m183, 1, 2, 9), (nm_m184, 1, 1, 9), (nm_m185, 1, 1, 9), (nm_m186, 1, 1, 9), (nm_m187, 1, 1, 9), (nm_m188, 1, 1, 9), (nm_m189, 1, 2, 9), (nm_m190, 1, 1, 9), (nm_m191, 1, 1, 9), (nm_m192, 1, 1, 9), (nm_m193, 1, 1, 9), (nm_m194, 1, 1, 9), (nm_m195, 1, 1, 9), (nm_m196, 1, 2, 9), (nm_m197, 1, 1, 9), (nm_m198, 1, 0, 9), (nm_m199, 1, 0, 9)] ++ ([(nm_m200, 1, 2, 9), (nm_m201, 1, 2, 9), (nm_m202, 1, 0, 9), (nm_m203, 1, 3, 9), (nm_m204, 1, 3, 9), (nm_m205, 1, 3, 9), (nm_m206, 1, 5, 9), (nm_m207, 1, 4, 9), (nm_m208, 1, 1, 9), (nm_m209, 1, 4, 9), (nm_m210, 1, 2, 9), (nm_m211, 1, 1, 9), (nm_m212, 1, 2, 9), (nm_m213, 1, 1, 9), (nm_m214, 1, 0, 9), (nm_m215, 1, 1, 9), (nm_m216, 1, 2, 9), (nm_m217, 1, 2, 9), (nm_m218, 1, 0, 9), (nm_m219, 1, 1, 9)] ++ ([(nm_m220, 1, 1, 9), (nm_m221, 1, 1, 9), (nm_m222, 1, 0, 9), (nm_m223, 1, 1, 9), (nm_m224, 2, 0, 9), (nm_m225, 1, 1, 9)]))))))))))), nm_Mq q
  exact List.forall_mem_append.mpr ⟨nm_G0_ok, List.forall_mem_append.mpr ⟨nm_G1_ok, List.forall_mem_append.mpr ⟨nm_G2_ok, List.forall_mem_append.mpr ⟨nm_G3_ok, List.forall_mem_append.mpr ⟨nm_G4_ok, List.forall_mem_append.mpr ⟨nm_G5_ok, List.forall_mem_append.mpr ⟨nm_G6_ok, List.forall_mem_append.mpr ⟨nm_G7_ok, List.forall_mem_append.mpr ⟨nm_G8_ok, List.forall_mem_append.mpr ⟨nm_G9_ok, List.forall_mem_append.mpr ⟨nm_G10_ok, nm_G11_ok⟩⟩⟩⟩⟩⟩⟩⟩⟩⟩⟩
theorem nm_Mf : px_Mf nm_cl nm_P nm_mf := by
  intro mi N k n ci hN hm
  have h : (nm_P.zip nm_mf)[mi]? = some (N, k, n, ci) := List.getElem?_zip_eq_some.mpr ⟨hN, hm⟩
  exact nm_G_ok (N, k, n, ci) (List.mem_of_getElem? h)
theorem nm_u0 : ∀ w ∈ u_ws "NamesInBags$Chest" nm_F0 3, w ∈ nm_ALL := by
  intro w hw
  obtain ⟨k, hk, rfl⟩ := List.mem_map.mp hw
  have hk := List.mem_range.mp hk
  have h1 : ((16, [0, k], 0) : px_Cw) ∈ nm_L0 := by
    revert k
    decide +kernel
  exact List.mem_filter.mpr ⟨nm_L0_in _ h1, nm_w_good (16, [0, k], 0) ⟨show (16 : Nat) ≠ 20 by decide, show (16 : Nat) ≠ 21 by decide⟩⟩
set_option maxRecDepth 1000000 in
theorem nm_ty0 : ∀ k, k < 3 → parseFieldDescriptor (nm_F0 k).2.2.1 = some (([.long, .int, .int] : List FieldType).getD k .int) := by decide +kernel
set_option maxRecDepth 1000000 in
theorem nm_nm0 : ∀ a, a < 3 → ∀ b, b < 3 → a ≠ b → (nm_F0 a).2.1 ≠ (nm_F0 b).2.1 := by decide +kernel
theorem nm_dc0 : ∀ k, k < 3 → (nm_F0 k).1 = "NamesInBags$Chest" := by decide +kernel
theorem nm_u1 : ∀ w ∈ u_ws "NamesInBags$Course" nm_F1 14, w ∈ nm_ALL := by
  intro w hw
  obtain ⟨k, hk, rfl⟩ := List.mem_map.mp hw
  have hk := List.mem_range.mp hk
  have h1 : ((16, [1, k], 0) : px_Cw) ∈ nm_L1 := by
    revert k
    decide +kernel
  exact List.mem_filter.mpr ⟨nm_L1_in _ h1, nm_w_good (16, [1, k], 0) ⟨show (16 : Nat) ≠ 20 by decide, show (16 : Nat) ≠ 21 by decide⟩⟩
set_option maxRecDepth 1000000 in
theorem nm_ty1 : ∀ k, k < 14 → parseFieldDescriptor (nm_F1 k).2.2.1 = some (([.object "NamesInBags$Town", .object "NamesInBags$Rule", .array (.int), .int, .int, .int, .int, .int, .int, .int, .array (.int), .int, .int, .int] : List FieldType).getD k .int) := by decide +kernel
set_option maxRecDepth 1000000 in
theorem nm_nm1 : ∀ a, a < 14 → ∀ b, b < 14 → a ≠ b → (nm_F1 a).2.1 ≠ (nm_F1 b).2.1 := by decide +kernel
theorem nm_dc1 : ∀ k, k < 14 → (nm_F1 k).1 = "NamesInBags$Course" := by decide +kernel
theorem nm_u2 : ∀ w ∈ u_ws "NamesInBags$Row" nm_F2 2, w ∈ nm_ALL := by
  intro w hw
  obtain ⟨k, hk, rfl⟩ := List.mem_map.mp hw
  have hk := List.mem_range.mp hk
  have h1 : ((16, [2, k], 0) : px_Cw) ∈ nm_L2 := by
    revert k
    decide +kernel
  exact List.mem_filter.mpr ⟨nm_L2_in _ h1, nm_w_good (16, [2, k], 0) ⟨show (16 : Nat) ≠ 20 by decide, show (16 : Nat) ≠ 21 by decide⟩⟩
set_option maxRecDepth 1000000 in
theorem nm_ty2 : ∀ k, k < 2 → parseFieldDescriptor (nm_F2 k).2.2.1 = some (([.array (.long), .int] : List FieldType).getD k .int) := by decide +kernel
set_option maxRecDepth 1000000 in
theorem nm_nm2 : ∀ a, a < 2 → ∀ b, b < 2 → a ≠ b → (nm_F2 a).2.1 ≠ (nm_F2 b).2.1 := by decide +kernel
theorem nm_dc2 : ∀ k, k < 2 → (nm_F2 k).1 = "NamesInBags$Row" := by decide +kernel
theorem nm_u3 : ∀ w ∈ u_ws "NamesInBags$Rule" nm_F3 4, w ∈ nm_ALL := by
  intro w hw
  obtain ⟨k, hk, rfl⟩ := List.mem_map.mp hw
  have hk := List.mem_range.mp hk
  have h1 : ((16, [3, k], 0) : px_Cw) ∈ nm_L3 := by
    revert k
    decide +kernel
  exact List.mem_filter.mpr ⟨nm_L3_in _ h1, nm_w_good (16, [3, k], 0) ⟨show (16 : Nat) ≠ 20 by decide, show (16 : Nat) ≠ 21 by decide⟩⟩
set_option maxRecDepth 1000000 in
theorem nm_ty3 : ∀ k, k < 4 → parseFieldDescriptor (nm_F3 k).2.2.1 = some (([.array (.int), .array (.int), .array (.int), .int] : List FieldType).getD k .int) := by decide +kernel
set_option maxRecDepth 1000000 in
theorem nm_nm3 : ∀ a, a < 4 → ∀ b, b < 4 → a ≠ b → (nm_F3 a).2.1 ≠ (nm_F3 b).2.1 := by decide +kernel
theorem nm_dc3 : ∀ k, k < 4 → (nm_F3 k).1 = "NamesInBags$Rule" := by decide +kernel
theorem nm_u4 : ∀ w ∈ u_ws "NamesInBags$Table" nm_F4 6, w ∈ nm_ALL := by
  intro w hw
  obtain ⟨k, hk, rfl⟩ := List.mem_map.mp hw
  have hk := List.mem_range.mp hk
  have h1 : ((16, [4, k], 0) : px_Cw) ∈ nm_L4 := by
    revert k
    decide +kernel
  exact List.mem_filter.mpr ⟨nm_L4_in _ h1, nm_w_good (16, [4, k], 0) ⟨show (16 : Nat) ≠ 20 by decide, show (16 : Nat) ≠ 21 by decide⟩⟩
set_option maxRecDepth 1000000 in
theorem nm_ty4 : ∀ k, k < 6 → parseFieldDescriptor (nm_F4 k).2.2.1 = some (([.array (.long), .array (.int), .array (.long), .int, .array (.int), .array (.int)] : List FieldType).getD k .int) := by decide +kernel
set_option maxRecDepth 1000000 in
theorem nm_nm4 : ∀ a, a < 6 → ∀ b, b < 6 → a ≠ b → (nm_F4 a).2.1 ≠ (nm_F4 b).2.1 := by decide +kernel
theorem nm_dc4 : ∀ k, k < 6 → (nm_F4 k).1 = "NamesInBags$Table" := by decide +kernel
theorem nm_u5 : ∀ w ∈ u_ws "NamesInBags$Text" nm_F5 2, w ∈ nm_ALL := by
  intro w hw
  obtain ⟨k, hk, rfl⟩ := List.mem_map.mp hw
  have hk := List.mem_range.mp hk
  have h1 : ((16, [5, k], 0) : px_Cw) ∈ nm_L5 := by
    revert k
    decide +kernel
  exact List.mem_filter.mpr ⟨nm_L5_in _ h1, nm_w_good (16, [5, k], 0) ⟨show (16 : Nat) ≠ 20 by decide, show (16 : Nat) ≠ 21 by decide⟩⟩
set_option maxRecDepth 1000000 in
theorem nm_ty5 : ∀ k, k < 2 → parseFieldDescriptor (nm_F5 k).2.2.1 = some (([.array (.int), .int] : List FieldType).getD k .int) := by decide +kernel
set_option maxRecDepth 1000000 in
theorem nm_nm5 : ∀ a, a < 2 → ∀ b, b < 2 → a ≠ b → (nm_F5 a).2.1 ≠ (nm_F5 b).2.1 := by decide +kernel
theorem nm_dc5 : ∀ k, k < 2 → (nm_F5 k).1 = "NamesInBags$Text" := by decide +kernel
theorem nm_u6 : ∀ w ∈ u_ws "NamesInBags$Town" nm_F6 12, w ∈ nm_ALL := by
  intro w hw
  obtain ⟨k, hk, rfl⟩ := List.mem_map.mp hw
  have hk := List.mem_range.mp hk
  have h1 : ((16, [6, k], 0) : px_Cw) ∈ nm_L6 := by
    revert k
    decide +kernel
  exact List.mem_filter.mpr ⟨nm_L6_in _ h1, nm_w_good (16, [6, k], 0) ⟨show (16 : Nat) ≠ 20 by decide, show (16 : Nat) ≠ 21 by decide⟩⟩
set_option maxRecDepth 1000000 in
theorem nm_ty6 : ∀ k, k < 12 → parseFieldDescriptor (nm_F6 k).2.2.1 = some (([.int, .array (.int), .array (.int), .array (.int), .array (.int), .array (.int), .array (.int), .array (.boolean), .int, .array (.int), .array (.int), .array (.int)] : List FieldType).getD k .int) := by decide +kernel
set_option maxRecDepth 1000000 in
theorem nm_nm6 : ∀ a, a < 12 → ∀ b, b < 12 → a ≠ b → (nm_F6 a).2.1 ≠ (nm_F6 b).2.1 := by decide +kernel
theorem nm_dc6 : ∀ k, k < 12 → (nm_F6 k).1 = "NamesInBags$Town" := by decide +kernel
theorem nm_u7 : ∀ w ∈ u_ws "NamesInBags$Walk" nm_F7 6, w ∈ nm_ALL := by
  intro w hw
  obtain ⟨k, hk, rfl⟩ := List.mem_map.mp hw
  have hk := List.mem_range.mp hk
  have h1 : ((16, [7, k], 0) : px_Cw) ∈ nm_L7 := by
    revert k
    decide +kernel
  exact List.mem_filter.mpr ⟨nm_L7_in _ h1, nm_w_good (16, [7, k], 0) ⟨show (16 : Nat) ≠ 20 by decide, show (16 : Nat) ≠ 21 by decide⟩⟩
set_option maxRecDepth 1000000 in
theorem nm_ty7 : ∀ k, k < 6 → parseFieldDescriptor (nm_F7 k).2.2.1 = some (([.object "NamesInBags$Table", .object "NamesInBags$Table", .object "NamesInBags$Table", .object "NamesInBags$Chest", .long, .long] : List FieldType).getD k .int) := by decide +kernel
set_option maxRecDepth 1000000 in
theorem nm_nm7 : ∀ a, a < 6 → ∀ b, b < 6 → a ≠ b → (nm_F7 a).2.1 ≠ (nm_F7 b).2.1 := by decide +kernel
theorem nm_dc7 : ∀ k, k < 6 → (nm_F7 k).1 = "NamesInBags$Walk" := by decide +kernel
theorem nm_u8 : ∀ w ∈ u_ws "NamesInBags" nm_F8 17, w ∈ nm_ALL := by
  intro w hw
  obtain ⟨k, hk, rfl⟩ := List.mem_map.mp hw
  have hk := List.mem_range.mp hk
  have h1 : ((16, [8, k], 0) : px_Cw) ∈ nm_L8 := by
    revert k
    decide +kernel
  exact List.mem_filter.mpr ⟨nm_L8_in _ h1, nm_w_good (16, [8, k], 0) ⟨show (16 : Nat) ≠ 20 by decide, show (16 : Nat) ≠ 21 by decide⟩⟩
set_option maxRecDepth 1000000 in
theorem nm_ty8 : ∀ k, k < 17 → parseFieldDescriptor (nm_F8 k).2.2.1 = some (([.object "NamesInBags$Town", .object "NamesInBags$Text", .object "NamesInBags$Rule", .array (.object "NamesInBags$Rule"), .int, .object "NamesInBags$Chest", .object "NamesInBags$Chest", .object "NamesInBags$Course", .object "NamesInBags$Walk", .object "NamesInBags$Row", .array (.int), .int, .array (.object "NamesInBags$Chest"), .array (.int), .int, .array (.int), .int] : List FieldType).getD k .int) := by decide +kernel
set_option maxRecDepth 1000000 in
theorem nm_nm8 : ∀ a, a < 17 → ∀ b, b < 17 → a ≠ b → (nm_F8 a).2.1 ≠ (nm_F8 b).2.1 := by decide +kernel
theorem nm_dc8 : ∀ k, k < 17 → (nm_F8 k).1 = "NamesInBags" := by decide +kernel
theorem nm_u9 : ∀ w ∈ u_ws "NamesInBagsModel" nm_F9 56, w ∈ nm_ALL := by
  intro w hw
  obtain ⟨k, hk, rfl⟩ := List.mem_map.mp hw
  have hk := List.mem_range.mp hk
  have h1 : ((16, [9, k], 0) : px_Cw) ∈ nm_L9 := by
    revert k
    decide +kernel
  exact List.mem_filter.mpr ⟨nm_L9_in _ h1, nm_w_good (16, [9, k], 0) ⟨show (16 : Nat) ≠ 20 by decide, show (16 : Nat) ≠ 21 by decide⟩⟩
set_option maxRecDepth 1000000 in
theorem nm_ty9 : ∀ k, k < 56 → parseFieldDescriptor (nm_F9 k).2.2.1 = some (([.int, .int, .array (.long), .int, .array (.int), .array (.int), .array (.int), .array (.int), .array (.int), .array (.int), .array (.boolean), .int, .array (.int), .array (.int), .array (.int), .int, .array (.int), .array (.boolean), .array (.int), .array (.int), .int, .array (.int), .int, .int, .int, .array (.int), .array (.int), .int, .array (.int), .array (.int), .array (.int), .int, .int, .int, .long, .long, .int, .int, .array (.int), .array (.int), .array (.long), .array (.long), .array (.long), .array (.int), .array (.int), .long, .long, .array (.int), .int, .int, .array (.int), .array (.boolean), .array (.long), .array (.long), .array (.int), .array (.int)] : List FieldType).getD k .int) := by decide +kernel
set_option maxRecDepth 1000000 in
theorem nm_nm9 : ∀ a, a < 56 → ∀ b, b < 56 → a ≠ b → (nm_F9 a).2.1 ≠ (nm_F9 b).2.1 := by decide +kernel
theorem nm_dc9 : ∀ k, k < 56 → (nm_F9 k).1 = "NamesInBagsModel" := by decide +kernel
theorem nm_okK : px_okK nm_cl nm_T nm_ALL := by
  intro ci C F N h
  match ci, h with
  | 0, h => cases h; exact ⟨_, rfl, rfl, nm_ty0, nm_nm0, nm_u0, nm_dc0⟩
  | 1, h => cases h; exact ⟨_, rfl, rfl, nm_ty1, nm_nm1, nm_u1, nm_dc1⟩
  | 2, h => cases h; exact ⟨_, rfl, rfl, nm_ty2, nm_nm2, nm_u2, nm_dc2⟩
  | 3, h => cases h; exact ⟨_, rfl, rfl, nm_ty3, nm_nm3, nm_u3, nm_dc3⟩
  | 4, h => cases h; exact ⟨_, rfl, rfl, nm_ty4, nm_nm4, nm_u4, nm_dc4⟩
  | 5, h => cases h; exact ⟨_, rfl, rfl, nm_ty5, nm_nm5, nm_u5, nm_dc5⟩
  | 6, h => cases h; exact ⟨_, rfl, rfl, nm_ty6, nm_nm6, nm_u6, nm_dc6⟩
  | 7, h => cases h; exact ⟨_, rfl, rfl, nm_ty7, nm_nm7, nm_u7, nm_dc7⟩
  | 8, h => cases h; exact ⟨_, rfl, rfl, nm_ty8, nm_nm8, nm_u8, nm_dc8⟩
  | 9, h => cases h; exact ⟨_, rfl, rfl, nm_ty9, nm_nm9, nm_u9, nm_dc9⟩
  | ci + 10, h => simp [nm_cl] at h
theorem nm_okL : ∀ ci : Nat, nm_cl[ci]? = none → nm_T.2[ci]? = none := by
  intro ci h
  rw [List.getElem?_eq_none_iff] at h ⊢
  exact h
theorem nm_good : ∀ w ∈ nm_ALL, (w.onTables && w.keeps) = true ∨ ∃ ty, w = .arrayClass ty := fun w h => good_of_word (List.mem_filter.mp h).2
theorem nm_isX : ∀ w ∈ nm_EXT, px_isX w = true := fun w h => (List.mem_filter.mp h).2
theorem nm_Ok : px_Ok nm_ow nm_cl nm_T nm_P nm_ALL nm_EXT "NamesInBags" nm_mf := ⟨nm_P_ok, ⟨nm_okK, nm_okL, nm_Mf⟩, nm_good, nm_isX⟩
theorem nm_ac_int : Cond.arrayClass .int ∈ lw_tbl := nm_C1_in (12, [3], 0) (by decide +kernel)
theorem nm_ac_boolean : Cond.arrayClass .boolean ∈ lw_tbl := nm_C4_in (12, [18], 0) (by decide +kernel)
theorem nm_ac_long : Cond.arrayClass .long ∈ lw_tbl := nm_C5_in (12, [5], 0) (by decide +kernel)
theorem nm_ao_Rule : Cond.arrayOver (.object "NamesInBags$Rule") ∈ lw_tbl := nm_CE_in (21, [22], 0) (by decide +kernel)
theorem nm_ao_Chest : Cond.arrayOver (.object "NamesInBags$Chest") ∈ lw_tbl := nm_CE_in (21, [24], 0) (by decide +kernel)
theorem nm_inst : ∀ (k : Nat) (C : String) (F : u_T) (N : Nat), nm_cl[k]? = some (C, F, N) → Cond.instantiable C N ∈ lw_tbl := by
  intro k C F N h
  match k, h with
  | 0, h => cases h; exact nm_C8_in (10, [0], 0) (by decide +kernel)
  | 1, h => cases h; exact nm_C9_in (10, [1], 0) (by decide +kernel)
  | 2, h => cases h; exact nm_C9_in (10, [2], 0) (by decide +kernel)
  | 3, h => cases h; exact nm_C1_in (10, [3], 0) (by decide +kernel)
  | 4, h => cases h; exact nm_C8_in (10, [4], 0) (by decide +kernel)
  | 5, h => cases h; exact nm_C9_in (10, [5], 0) (by decide +kernel)
  | 6, h => cases h; exact nm_C9_in (10, [6], 0) (by decide +kernel)
  | 7, h => cases h; exact nm_C9_in (10, [7], 0) (by decide +kernel)
  | 8, h => cases h; exact nm_C11_in (10, [8], 0) (by decide +kernel)
  | 9, h => cases h; exact nm_C11_in (10, [9], 0) (by decide +kernel)
  | k + 10, h => simp [nm_cl] at h
end
section
/-! THE LAW, over the pure machine -/
theorem nm_all_in : ∀ w ∈ nm_ALL, w ∈ lw_tbl := fun w h => (List.mem_filter.mp h).1
theorem nm_five : ∀ ty ∈ nm_T.1, ty = .int ∨ ty = .boolean ∨ ty = .long ∨ ty = .object "NamesInBags$Rule" ∨ ty = .object "NamesInBags$Chest" := by decide +kernel
theorem nm_arr {s : State} {args : Array Value} (hts : ∀ w ∈ lw_tbl, w.before args s = true) (ty : FieldType) (h : ty ∈ nm_T.1) : ∃ cA : ClassId, ArrOfT s cA ty ∧ va_RA s cA ty := by
  rcases nm_five ty h with rfl | rfl | rfl | rfl | rfl
  · obtain ⟨cA, kA, comp, h1, h2, h3⟩ := Cond.arrayClass_spec (hts _ nm_ac_int)
    exact ⟨cA, fun n z => ⟨fun k h => (by cases h), kA, h2, comp, h3⟩, h1⟩
  · obtain ⟨cA, kA, comp, h1, h2, h3⟩ := Cond.arrayClass_spec (hts _ nm_ac_boolean)
    exact ⟨cA, fun n z => ⟨fun k h => (by cases h), kA, h2, comp, h3⟩, h1⟩
  · obtain ⟨cA, kA, comp, h1, h2, h3⟩ := Cond.arrayClass_spec (hts _ nm_ac_long)
    exact ⟨cA, fun n z => ⟨fun k h => (by cases h), kA, h2, comp, h3⟩, h1⟩
  · obtain ⟨comp, cA, kA, h0, -, h2, h3, h1⟩ := Cond.arrayOver_spec (hts _ nm_ao_Rule)
    exact ⟨cA, fun n z => ⟨fun k h => (by cases h), kA, h2, comp, h3⟩, kA, comp, h2, h3, h0, h1⟩
  · obtain ⟨comp, cA, kA, h0, -, h2, h3, h1⟩ := Cond.arrayOver_spec (hts _ nm_ao_Chest)
    exact ⟨cA, fun n z => ⟨fun k h => (by cases h), kA, h2, comp, h3⟩, kA, comp, h2, h3, h0, h1⟩
theorem nm_K {s : State} {args : Array Value} (hts : ∀ w ∈ lw_tbl, w.before args s = true) : ∃ (D : va_G) (dA : Nat → ClassId), va_K D nm_cl (px_tys nm_T dA) s := by
  have h1 : ∀ k : Nat, ∃ x : ClassId × (Nat → Nat), ∀ q : vw_C, nm_cl[k]? = some q → u_Kn s q.1 q.2.1 q.2.2 x.1 x.2 := by
    intro k
    rcases hk : nm_cl[k]? with _ | ⟨C, F, N⟩
    · exact ⟨(0, fun _ => 0), fun q hq => by cases hq⟩
    · obtain ⟨tys, -, -, -, -, h5, -⟩ := nm_okK k C F N hk
      obtain ⟨c, i, h⟩ := u_known (n := N) hts (fun w hw => nm_all_in _ (h5 w hw)) (hts _ (nm_inst k C F N hk))
      exact ⟨(c, i), fun q hq => by cases hq; exact h⟩
  have h2 : ∀ t : Nat, ∃ cA : ClassId, ∀ ty : FieldType, nm_T.1[t]? = some ty → ArrOfT s cA ty ∧ va_RA s cA ty := by
    intro t
    rcases ht : nm_T.1[t]? with _ | ty
    · exact ⟨0, fun ty h => by cases h⟩
    · obtain ⟨cA, h⟩ := nm_arr hts ty (List.mem_of_getElem? ht)
      exact ⟨cA, fun ty' e => by cases e; exact h⟩
  refine ⟨(fun k => (h1 k).choose.1, fun k => (h1 k).choose.2), fun t => (h2 t).choose, fun k q hq => (h1 k).choose_spec q hq, fun k q hk => ?_⟩
  simp only [px_tys, List.getElem?_mapIdx, Option.map_eq_some_iff] at hk
  obtain ⟨ty, ht, rfl⟩ := hk
  exact (h2 k).choose_spec ty ht
abbrev nm_none : Nat → List Value → px_H → Option px_A := fun _ _ _ => none
abbrev nm_call (n : Nat) : Nat → List Value → px_H → Option px_A := px_call nm_T nm_P nm_none n
section nm_s1
variable {p : Program} {l : Launch} {e : Env} {s : State} {m : MethodId} {below : List Frame} {meth : Method} {c : Code} {b L : Nat} {xs : Nat → Int32} {D : va_G} {dA : Nat → ClassId}
/-- from this state of the pure machine the law comes to its end with true -/
def nm_G (p : Program) (l : Launch) (e : Env) (s : State) (m : MethodId) (below : List Frame) (meth : Method) (c : Code) (b : Nat) (D : va_G) (dA : Nat → ClassId) (S : px_S) : Prop :=
  ∀ (H : Heap) (locs : List Loc) (ls : Array Slot), px_Rel s.heap.size b D nm_cl dA S.2.2.2.1 H → va_S (fun q => s.heap.size ≤ q) s.heap H locs → lv_has ls 8 (px_trL s.heap.size b S.2.1) →
    W p l e room_1 s m #[Value.ref b] below meth c H locs S.2.2.2.2.1 S.2.2.2.2.2 (lw_Z below #[Value.ref b] s) (F0 m S.1 ls (S.2.2.1.map (px_tr s.heap.size b)))
theorem nm_Ex {args : Array Value} (hts : ∀ w ∈ lw_tbl, w.before args s = true) : px_Ex nm_EXT s := by
  intro w hw
  have h1 := hts w (List.mem_filter.mp hw).1
  have h2 := (List.mem_filter.mp hw).2
  unfold px_isX at h2
  split at h2
  · exact va_Nw.of rfl h1
  · exact va_Nw.of rfl h1
  · exact h1
  · cases h2
theorem nm_G_step (C0 : lw_At p s m meth c b L xs) (hK : va_K D nm_cl (px_tys nm_T dA) s) {S S' : px_S} (n : Nat) (hs : px_step nm_T (some (L, xs)) nm_P (nm_call n) nm_law 0 S = some (.inl S')) (h : nm_G p l e s m below meth c b D dA S') : nm_G p l e s m below meth c b D dA S := by
  obtain ⟨hx, hb, hr, hml, hown, hts, hX, hbl, hlocks, hgv⟩ := C0
  obtain ⟨CW, CE, o, kM, cM, hokM, hCW, hCE, ho, hkM⟩ := nm_wd_law
  obtain ⟨pc, lv, st, hp, nc, ns⟩ := S
  intro H locs ls hR hS hl
  exact px_sim (M := nm_law) (Ts := lw_tbl) (ALL := nm_ALL) (EXT := nm_EXT) hx hb hml hown hts hK (nm_Ex hts) nm_isX (fun h2 => absurd (hkM h2).1 (by decide)) hokM hCW hCE ho nm_Mf hkM nm_okK nm_okL nm_all_in nm_good rfl
    (fun mi N av hp r hp' h1 h2 => px_call_sim nm_Ok (fun _ _ _ _ _ _ _ h => by cases h) n mi N av hp r hp' h1 h2)
    (fun x hx => by cases hx; exact ⟨hX, hbl, hbl⟩) (Nat.le_refl _) (fun _ => rfl) hs hR hS hl (fun H' locs' ls' hR' hS' hl' => h H' locs' ls' hR' hS' hl')
theorem nm_G_ret (C0 : lw_At p s m meth c b L xs) {pc nc ns : Nat} {lv : List (Nat × Value)} {hp : px_H} (hd : decode code pc = .ok (.ireturn, 1)) (hc : nc ≤ 600002) (hn : ns ≤ 7302232) : nm_G p l e s m below meth c b D dA (pc, lv, [.int 1], hp, nc, ns) := by
  obtain ⟨hx, hb, hr, hml, hown, hts, hX, hbl, hlocks, hgv⟩ := C0
  intro H locs ls hR hS hl
  refine va_forget (fun q hq => hS.2.2 q hq) ?_
  refine W.widen (k := 600002) (n := 7302232) hc hn ?_
  exact lw_ret hx hb hr hlocks hd
def nm_steps (X : Option (Nat × (Nat → Int32))) (n : Nat) : Nat → px_S → Option px_S
  | 0, S => some S
  | k + 1, S => match px_step nm_T X nm_P (nm_call n) nm_law 0 S with
    | some (.inl S') => nm_steps X n k S'
    | _ => none
theorem nm_G_steps (C0 : lw_At p s m meth c b L xs) (hK : va_K D nm_cl (px_tys nm_T dA) s) (n : Nat) : ∀ (k : Nat) (S S' : px_S), nm_steps (some (L, xs)) n k S = some S' → nm_G p l e s m below meth c b D dA S' → nm_G p l e s m below meth c b D dA S := by
  intro k
  induction k with
  | zero => intro S S' h hG; cases h; exact hG
  | succ k ih =>
    intro S S' h hG
    unfold nm_steps at h
    split at h
    · rename_i S1 h1
      exact nm_G_step C0 hK n h1 (ih S1 S' h hG)
    · cases h
/-- the entry -/
theorem nm_start (l : Launch) {bound : Nat} (hL : L ≤ bound) (C0 : lw_At p s m meth c b L xs) (h : ∀ (D : va_G) (dA : Nat → ClassId), va_K D nm_cl (px_tys nm_T dA) s → nm_G p l e s m below meth c b D dA (0, [(0, .retAddr 0)], [], [], 0, 0)) :
    W p l e room_1 s m #[Value.ref b] below meth c s.heap [] 0 0 (lw_Z below #[Value.ref b] s) (entryFrame m ([Value.ref b] : List Value).toArray 8) := by
  obtain ⟨hx, hb, hr, hml, hown, hts, hX, hbl, hlocks, hgv⟩ := C0
  obtain ⟨D, dA, hK⟩ := nm_K hts
  have hl := lv_entry ([.ref b]) (n := 8) (Nat.le_of_ble_eq_true rfl)
  rw [lg_entry_eq]
  generalize (lg_sl ([.ref b]) ++ List.replicate (8 - (lg_sl ([.ref b])).length) Slot.unset).toArray = ls at hl ⊢
  exact h D dA hK s.heap [] ls (fun k q hk => by simp [px_trH] at hk) va_S.rf hl
end nm_s1
end
section
/-! AN ABSTRACT INTERPRETER of the pure machine: bounds, cells, where a value lies. -/
/-- kind (0 int, 1 long, 2 reference, 3 script), least, greatest, cells -/
abbrev ab_F : Type := Nat × Int × Int × List Nat
/-- a place: (0, local, _), (1, cell, field), (2, of the script, _) -/
abbrev ab_L : Type := Nat × Nat × Nat
abbrev ab_V : Type := ab_F × Option ab_L
abbrev ab_C : Type := (Nat × List ab_F) ⊕ (Nat × Nat × ab_F)
/-- locals, stack, heap, script -/
abbrev ab_S : Type := List (Nat × ab_V) × List ab_V × List ab_C × List (Int × Int)
def ab_f (f : ab_F) (v : Value) : Prop :=
  match v with
  | .int x => f.1 = 0 ∧ f.2.1 ≤ x.toInt ∧ x.toInt ≤ f.2.2.1
  | .long x => f.1 = 1 ∧ f.2.1 ≤ x.toInt ∧ x.toInt ≤ f.2.2.1
  | .ref k => f.1 = 2 ∧ k ∈ f.2.2.2
  | .retAddr _ => f.1 = 3
  | _ => False
def ab_num : Value → Option Int
  | .int x => some x.toInt
  | .long x => some x.toInt
  | _ => none
def ab_at (xs : Nat → Int32) (lv : List (Nat × Value)) (hp : px_H) (l : ab_L) : Option Value :=
  match l with
  | (0, j, _) => px_find j lv
  | (1, c, k) => match hp[c]? with
    | some (.inr (_, fs)) => fs[k]?
    | _ => none
  | (2, j, _) => some (.int (xs j))
  | _ => none
def ab_o (xs : Nat → Int32) (lv : List (Nat × Value)) (hp : px_H) (o : Option ab_L) (v : Value) : Prop :=
  ∀ l, o = some l → ∃ w, ab_at xs lv hp l = some w ∧ ab_num w = ab_num v
def ab_v (xs : Nat → Int32) (lv : List (Nat × Value)) (hp : px_H) (a : ab_V) (v : Value) : Prop := ab_f a.1 v ∧ ab_o xs lv hp a.2 v
def ab_c (a : ab_C) (x : px_E) : Prop :=
  match a, x with
  | .inr (t, n, f), .inl (t', n', cont) => t = t' ∧ n = n' ∧ ∀ j, j < n → match cont with
    | .inl g => ab_f f (.int (g j))
    | .inr (.inl g) => ab_f f (.long (g j))
    | .inr (.inr (.inr (.inr g))) => ∃ q, g j = some q ∧ ab_f f (.ref q)
    | _ => False
  | .inl (ci, fs), .inr (ci', vs) => ci = ci' ∧ fs.length = vs.length ∧ ∀ (k : Nat) (f : ab_F) (v : Value), fs[k]? = some f → vs[k]? = some v → ab_f f v
  | _, _ => False
def ab_h (ah : List ab_C) (hp : px_H) : Prop := ah.length = hp.length ∧ ∀ (k : Nat) (a : ab_C) (x : px_E), ah[k]? = some a → hp[k]? = some x → ab_c a x
def ab_st (xs : Nat → Int32) (lv : List (Nat × Value)) (hp : px_H) : List ab_V → List Value → Prop
  | [], [] => True
  | a :: r, v :: s => ab_v xs lv hp a v ∧ ab_st xs lv hp r s
  | _, _ => False
def ab_lv (xs : Nat → Int32) (hp : px_H) (al : List (Nat × ab_V)) (lv : List (Nat × Value)) : Prop := ∀ (j : Nat) (a : ab_V), (j, a) ∈ al → ∃ v, px_find j lv = some v ∧ ab_v xs lv hp a v
def ab_x (sc : List (Int × Int)) (xs : Nat → Int32) : Prop := ∀ (j : Nat) (q : Int × Int), sc[j]? = some q → q.1 ≤ (xs j).toInt ∧ (xs j).toInt ≤ q.2
/-- the abstract state holds -/
def ab_s (xs : Nat → Int32) (A : ab_S) (lv : List (Nat × Value)) (st : List Value) (hp : px_H) : Prop := ab_lv xs hp A.1 lv ∧ ab_st xs lv hp A.2.1 st ∧ ab_h A.2.2.1 hp ∧ ab_x A.2.2.2 xs
/-! bounds -/
abbrev ab_B : Type := Int × Int
def ab_topi : ab_B := (-2147483648, 2147483647)
def ab_topl : ab_B := (-9223372036854775808, 9223372036854775807)
def ab_in (q : ab_B) (x : Int) : Prop := q.1 ≤ x ∧ x ≤ q.2
/-- an int's operation: exact where both are known, else by its rule -/
def ab_bi (f : Int32 → Int32 → Int32) (rule : ab_B → ab_B → ab_B) (a b : ab_B) : ab_B :=
  if a.1 = a.2 ∧ b.1 = b.2 then ((f (Int32.ofInt a.1) (Int32.ofInt b.1)).toInt, (f (Int32.ofInt a.1) (Int32.ofInt b.1)).toInt) else rule a b
def ab_bl (f : Int64 → Int64 → Int64) (rule : ab_B → ab_B → ab_B) (a b : ab_B) : ab_B :=
  if a.1 = a.2 ∧ b.1 = b.2 then ((f (Int64.ofInt a.1) (Int64.ofInt b.1)).toInt, (f (Int64.ofInt a.1) (Int64.ofInt b.1)).toInt) else rule a b
def ab_bs (f : Int64 → Int32 → Int64) (rule : ab_B → ab_B → ab_B) (a b : ab_B) : ab_B :=
  if a.1 = a.2 ∧ b.1 = b.2 then ((f (Int64.ofInt a.1) (Int32.ofInt b.1)).toInt, (f (Int64.ofInt a.1) (Int32.ofInt b.1)).toInt) else rule a b
def ab_fit (top q : ab_B) : ab_B := if top.1 ≤ q.1 ∧ q.2 ≤ top.2 then q else top
def ab_radd (top : ab_B) (a b : ab_B) : ab_B := ab_fit top (a.1 + b.1, a.2 + b.2)
def ab_rsub (top : ab_B) (a b : ab_B) : ab_B := ab_fit top (a.1 - b.2, a.2 - b.1)
def ab_rtop (top : ab_B) (_ _ : ab_B) : ab_B := top
/-- 'and': at most the one that isn't negative -/
def ab_rand (top : ab_B) (a b : ab_B) : ab_B := if 0 ≤ a.1 ∧ (b.1 < 0 ∨ a.2 ≤ b.2) then (0, a.2) else if 0 ≤ b.1 then (0, b.2) else top
/-- to the right: at most what it was -/
def ab_rshr (top : ab_B) (a _ : ab_B) : ab_B := if 0 ≤ a.1 then (0, a.2) else top
/-- to the left: nothing stays nothing -/
def ab_rshl (top : ab_B) (a _ : ab_B) : ab_B := if a = (0, 0) then (0, 0) else top
theorem ab_i32 (x : Int32) : ab_in ab_topi x.toInt := ⟨Int32.minValue_le_toInt x, Int32.toInt_le x⟩
theorem ab_i64 (x : Int64) : ab_in ab_topl x.toInt := ⟨Int64.minValue_le_toInt x, Int64.toInt_le x⟩
theorem ab_bi_ok {f : Int32 → Int32 → Int32} {rule : ab_B → ab_B → ab_B} (hr : ∀ (a b : ab_B) (x y : Int32), ab_in a x.toInt → ab_in b y.toInt → ab_in (rule a b) (f x y).toInt) {a b : ab_B} {x y : Int32} (ha : ab_in a x.toInt) (hb : ab_in b y.toInt) : ab_in (ab_bi f rule a b) (f x y).toInt := by
  unfold ab_bi
  split
  · rename_i h
    have e1 : Int32.ofInt a.1 = x := by rw [show a.1 = x.toInt by have := ha.1; have := ha.2; omega]; exact Int32.ofInt_toInt x
    have e2 : Int32.ofInt b.1 = y := by rw [show b.1 = y.toInt by have := hb.1; have := hb.2; omega]; exact Int32.ofInt_toInt y
    rw [e1, e2]
    exact ⟨Int.le_refl _, Int.le_refl _⟩
  · exact hr a b x y ha hb
theorem ab_bl_ok {f : Int64 → Int64 → Int64} {rule : ab_B → ab_B → ab_B} (hr : ∀ (a b : ab_B) (x y : Int64), ab_in a x.toInt → ab_in b y.toInt → ab_in (rule a b) (f x y).toInt) {a b : ab_B} {x y : Int64} (ha : ab_in a x.toInt) (hb : ab_in b y.toInt) : ab_in (ab_bl f rule a b) (f x y).toInt := by
  unfold ab_bl
  split
  · rename_i h
    have e1 : Int64.ofInt a.1 = x := by rw [show a.1 = x.toInt by have := ha.1; have := ha.2; omega]; exact Int64.ofInt_toInt x
    have e2 : Int64.ofInt b.1 = y := by rw [show b.1 = y.toInt by have := hb.1; have := hb.2; omega]; exact Int64.ofInt_toInt y
    rw [e1, e2]
    exact ⟨Int.le_refl _, Int.le_refl _⟩
  · exact hr a b x y ha hb
theorem ab_bs_ok {f : Int64 → Int32 → Int64} {rule : ab_B → ab_B → ab_B} (hr : ∀ (a b : ab_B) (x : Int64) (y : Int32), ab_in a x.toInt → ab_in b y.toInt → ab_in (rule a b) (f x y).toInt) {a b : ab_B} {x : Int64} {y : Int32} (ha : ab_in a x.toInt) (hb : ab_in b y.toInt) : ab_in (ab_bs f rule a b) (f x y).toInt := by
  unfold ab_bs
  split
  · rename_i h
    have e1 : Int64.ofInt a.1 = x := by rw [show a.1 = x.toInt by have := ha.1; have := ha.2; omega]; exact Int64.ofInt_toInt x
    have e2 : Int32.ofInt b.1 = y := by rw [show b.1 = y.toInt by have := hb.1; have := hb.2; omega]; exact Int32.ofInt_toInt y
    rw [e1, e2]
    exact ⟨Int.le_refl _, Int.le_refl _⟩
  · exact hr a b x y ha hb
theorem ab_bmod32 {z : Int} (h1 : -2147483648 ≤ z) (h2 : z ≤ 2147483647) : z.bmod (2 ^ 32) = z := by
  apply Int.bmod_eq_of_le <;> omega
theorem ab_add_ok (a b : ab_B) (x y : Int32) (ha : ab_in a x.toInt) (hb : ab_in b y.toInt) : ab_in (ab_radd ab_topi a b) (x + y).toInt := by
  unfold ab_radd ab_fit
  split
  · rename_i h
    simp only [ab_topi] at h
    have h1 := ha.1; have h2 := ha.2; have h3 := hb.1; have h4 := hb.2
    rw [Int32.toInt_add, ab_bmod32 (by omega) (by omega)]
    exact ⟨by simp only; omega, by simp only; omega⟩
  · exact ab_i32 _
theorem ab_sub_ok (a b : ab_B) (x y : Int32) (ha : ab_in a x.toInt) (hb : ab_in b y.toInt) : ab_in (ab_rsub ab_topi a b) (x - y).toInt := by
  unfold ab_rsub ab_fit
  split
  · rename_i h
    simp only [ab_topi] at h
    have h1 := ha.1; have h2 := ha.2; have h3 := hb.1; have h4 := hb.2
    rw [Int32.toInt_sub, ab_bmod32 (by omega) (by omega)]
    exact ⟨by simp only; omega, by simp only; omega⟩
  · exact ab_i32 _
theorem ab_rtop_i (f : Int32 → Int32 → Int32) (a b : ab_B) (x y : Int32) (_ : ab_in a x.toInt) (_ : ab_in b y.toInt) : ab_in (ab_rtop ab_topi a b) (f x y).toInt := ab_i32 _
theorem ab_rtop_l (f : Int64 → Int64 → Int64) (a b : ab_B) (x y : Int64) (_ : ab_in a x.toInt) (_ : ab_in b y.toInt) : ab_in (ab_rtop ab_topl a b) (f x y).toInt := ab_i64 _
theorem ab_rtop_s (f : Int64 → Int32 → Int64) (a b : ab_B) (x : Int64) (y : Int32) (_ : ab_in a x.toInt) (_ : ab_in b y.toInt) : ab_in (ab_rtop ab_topl a b) (f x y).toInt := ab_i64 _
theorem ab_n32 (x : Int32) (h : 0 ≤ x.toInt) : x.toInt = x.toBitVec.toNat ∧ x.toBitVec.toNat < 2147483648 := by
  have h1 : x.toInt = x.toBitVec.toInt := rfl
  rw [h1, BitVec.toInt_eq_toNat_cond] at h ⊢
  have := x.toBitVec.isLt
  split at h <;> rename_i h2
  · rw [if_pos h2]; omega
  · omega
theorem ab_b32 (x : Int32) (h : x.toBitVec.toNat < 2147483648) : x.toInt = x.toBitVec.toNat := by
  have h1 : x.toInt = x.toBitVec.toInt := rfl
  rw [h1, BitVec.toInt_eq_toNat_cond, if_pos (by omega)]
theorem ab_n64 (x : Int64) (h : 0 ≤ x.toInt) : x.toInt = x.toBitVec.toNat ∧ x.toBitVec.toNat < 9223372036854775808 := by
  have h1 : x.toInt = x.toBitVec.toInt := rfl
  rw [h1, BitVec.toInt_eq_toNat_cond] at h ⊢
  have := x.toBitVec.isLt
  split at h <;> rename_i h2
  · rw [if_pos h2]; omega
  · omega
theorem ab_b64 (x : Int64) (h : x.toBitVec.toNat < 9223372036854775808) : x.toInt = x.toBitVec.toNat := by
  have h1 : x.toInt = x.toBitVec.toInt := rfl
  rw [h1, BitVec.toInt_eq_toNat_cond, if_pos (by omega)]
theorem ab_and32 (x y : Int32) (h : 0 ≤ x.toInt) : 0 ≤ (x &&& y).toInt ∧ (x &&& y).toInt ≤ x.toInt := by
  obtain ⟨h1, h2⟩ := ab_n32 x h
  have h3 : (x &&& y).toBitVec.toNat ≤ x.toBitVec.toNat := by
    rw [Int32.toBitVec_and, BitVec.toNat_and]
    exact Nat.and_le_left
  have h4 := ab_b32 (x &&& y) (by omega)
  omega
theorem ab_and64 (x y : Int64) (h : 0 ≤ x.toInt) : 0 ≤ (x &&& y).toInt ∧ (x &&& y).toInt ≤ x.toInt := by
  obtain ⟨h1, h2⟩ := ab_n64 x h
  have h3 : (x &&& y).toBitVec.toNat ≤ x.toBitVec.toNat := by
    rw [Int64.toBitVec_and, BitVec.toNat_and]
    exact Nat.and_le_left
  have h4 := ab_b64 (x &&& y) (by omega)
  omega
theorem ab_rand_i (a b : ab_B) (x y : Int32) (ha : ab_in a x.toInt) (hb : ab_in b y.toInt) : ab_in (ab_rand ab_topi a b) (x &&& y).toInt := by
  have h1 := ha.1; have h2 := ha.2; have h3 := hb.1; have h4 := hb.2
  unfold ab_rand
  split
  · rename_i h
    have := ab_and32 x y (by omega)
    exact ⟨by simp only; omega, by simp only; omega⟩
  · split
    · have := ab_and32 y x (by omega)
      rw [Int32.and_comm]
      exact ⟨by simp only; omega, by simp only; omega⟩
    · exact ab_i32 _
theorem ab_rand_l (a b : ab_B) (x y : Int64) (ha : ab_in a x.toInt) (hb : ab_in b y.toInt) : ab_in (ab_rand ab_topl a b) (x &&& y).toInt := by
  have h1 := ha.1; have h2 := ha.2; have h3 := hb.1; have h4 := hb.2
  unfold ab_rand
  split
  · rename_i h
    have := ab_and64 x y (by omega)
    exact ⟨by simp only; omega, by simp only; omega⟩
  · split
    · have := ab_and64 y x (by omega)
      rw [Int64.and_comm]
      exact ⟨by simp only; omega, by simp only; omega⟩
    · exact ab_i64 _
theorem ab_shr_z (z : Int) (k : Nat) (h : 0 ≤ z) : 0 ≤ z >>> k ∧ z >>> k ≤ z := by
  rw [Int.shiftRight_eq_div_pow]
  have h2 : (0 : Int) < ((2 ^ k : Nat) : Int) := by exact_mod_cast Nat.pow_pos (by decide)
  exact ⟨Int.ediv_nonneg h (Int.le_of_lt h2), Int.ediv_le_self _ h⟩
theorem ab_rshr_i (a b : ab_B) (x y : Int32) (ha : ab_in a x.toInt) (_ : ab_in b y.toInt) : ab_in (ab_rshr ab_topi a b) (x >>> (y &&& 31)).toInt := by
  have h1 := ha.1; have h2 := ha.2
  unfold ab_rshr
  split
  · rw [pk_shr x (y &&& 31) _ rfl]
    have := ab_shr_z x.toInt ((y &&& 31).toBitVec.smod 32).toNat (by omega)
    exact ⟨by simp only; omega, by simp only; omega⟩
  · exact ab_i32 _
theorem ab_rush_i (a b : ab_B) (x y : Int32) (ha : ab_in a x.toInt) (_ : ab_in b y.toInt) : ab_in (ab_rshr ab_topi a b) ((x.toUInt32 >>> (y.toUInt32 &&& Int32.toUInt32 31)).toInt32).toInt := by
  have h1 := ha.1; have h2 := ha.2
  unfold ab_rshr
  split
  · obtain ⟨e1, e2⟩ := ab_n32 x (by omega)
    have e3 := pk_ushr x y _ rfl
    have e4 : x.toBitVec.toNat / 2 ^ ((y.toUInt32 &&& Int32.toUInt32 31).toBitVec % 32).toNat ≤ x.toBitVec.toNat := Nat.div_le_self _ _
    have e5 := ab_b32 ((x.toUInt32 >>> (y.toUInt32 &&& Int32.toUInt32 31)).toInt32) (by omega)
    exact ⟨by simp only; omega, by simp only; omega⟩
  · exact ab_i32 _
theorem ab_rush_l (a b : ab_B) (x : Int64) (y : Int32) (ha : ab_in a x.toInt) (_ : ab_in b y.toInt) : ab_in (ab_rshr ab_topl a b) ((x.toUInt64 >>> (y.toInt64.toUInt64 &&& Int64.toUInt64 63)).toInt64).toInt := by
  have h1 := ha.1; have h2 := ha.2
  unfold ab_rshr
  split
  · obtain ⟨e1, e2⟩ := ab_n64 x (by omega)
    have e3 : (x.toUInt64 >>> (y.toInt64.toUInt64 &&& Int64.toUInt64 63)).toInt64.toBitVec.toNat ≤ x.toBitVec.toNat := by
      show (x.toUInt64 >>> (y.toInt64.toUInt64 &&& Int64.toUInt64 63)).toBitVec.toNat ≤ x.toBitVec.toNat
      rw [UInt64.toBitVec_shiftRight, BitVec.ushiftRight_eq', BitVec.toNat_ushiftRight, Nat.shiftRight_eq_div_pow]
      exact Nat.div_le_self _ _
    have e5 := ab_b64 ((x.toUInt64 >>> (y.toInt64.toUInt64 &&& Int64.toUInt64 63)).toInt64) (by omega)
    exact ⟨by simp only; omega, by simp only; omega⟩
  · exact ab_i64 _
theorem ab_rshl_i (a b : ab_B) (x y : Int32) (ha : ab_in a x.toInt) (_ : ab_in b y.toInt) : ab_in (ab_rshl ab_topi a b) (x <<< (y &&& 31)).toInt := by
  unfold ab_rshl
  split
  · rename_i h
    subst h
    have h1 := ha.1; have h2 := ha.2
    simp only at h1 h2
    have hx : x = 0 := by rw [← Int32.toInt_inj]; simp only [Int32.toInt_zero]; omega
    subst hx
    rw [Int32.zero_shiftLeft]
    exact ⟨Int.le_refl _, Int.le_refl _⟩
  · exact ab_i32 _
theorem ab_rshl_l (a b : ab_B) (x : Int64) (y : Int32) (ha : ab_in a x.toInt) (_ : ab_in b y.toInt) : ab_in (ab_rshl ab_topl a b) (x <<< (y.toInt64 &&& 63)).toInt := by
  unfold ab_rshl
  split
  · rename_i h
    subst h
    have h1 := ha.1; have h2 := ha.2
    simp only at h1 h2
    have hx : x = 0 := by rw [← Int64.toInt_inj]; simp only [Int64.toInt_zero]; omega
    subst hx
    rw [Int64.zero_shiftLeft]
    exact ⟨Int.le_refl _, Int.le_refl _⟩
  · exact ab_i64 _
/-! what touches the stack alone -/
def ab_ii (f : Int32 → Int32 → Int32) (rule : ab_B → ab_B → ab_B) : List ab_V → Option (List ab_V)
  | ((0, b1, b2, _), _) :: ((0, a1, a2, _), _) :: r => some (((0, (ab_bi f rule (a1, a2) (b1, b2)).1, (ab_bi f rule (a1, a2) (b1, b2)).2, []), none) :: r)
  | _ => none
def ab_ll (f : Int64 → Int64 → Int64) (rule : ab_B → ab_B → ab_B) : List ab_V → Option (List ab_V)
  | ((1, b1, b2, _), _) :: ((1, a1, a2, _), _) :: r => some (((1, (ab_bl f rule (a1, a2) (b1, b2)).1, (ab_bl f rule (a1, a2) (b1, b2)).2, []), none) :: r)
  | _ => none
def ab_li (f : Int64 → Int32 → Int64) (rule : ab_B → ab_B → ab_B) : List ab_V → Option (List ab_V)
  | ((0, b1, b2, _), _) :: ((1, a1, a2, _), _) :: r => some (((1, (ab_bs f rule (a1, a2) (b1, b2)).1, (ab_bs f rule (a1, a2) (b1, b2)).2, []), none) :: r)
  | _ => none
def ab_i2l : List ab_V → Option (List ab_V)
  | ((0, a1, a2, _), o) :: r => some (((1, a1, a2, []), o) :: r)
  | _ => none
def ab_l2i : List ab_V → Option (List ab_V)
  | ((1, a1, a2, _), _) :: r => some (((0, (ab_fit ab_topi (a1, a2)).1, (ab_fit ab_topi (a1, a2)).2, []), none) :: r)
  | _ => none
def ab_itop : List ab_V → Option (List ab_V)
  | ((0, _, _, _), _) :: r => some (((0, ab_topi.1, ab_topi.2, []), none) :: r)
  | _ => none
def ab_k1 (a : ab_V) : Bool := Nat.beq a.1.1 0 || Nat.beq a.1.1 2 || Nat.beq a.1.1 3
def ab_dup : List ab_V → Option (List ab_V)
  | a :: r => if ab_k1 a then some (a :: a :: r) else none
  | _ => none
def ab_dup_x1 : List ab_V → Option (List ab_V)
  | a :: b :: r => if ab_k1 a && ab_k1 b then some (a :: b :: a :: r) else none
  | _ => none
def ab_dup_x2 : List ab_V → Option (List ab_V)
  | a :: b :: d :: r => if ab_k1 a && ab_k1 b && ab_k1 d then some (a :: b :: d :: a :: r) else none
  | _ => none
def ab_dup2 : List ab_V → Option (List ab_V)
  | a :: b :: r => if ab_k1 a && ab_k1 b then some (a :: b :: a :: b :: r) else if Nat.beq a.1.1 1 then some (a :: a :: b :: r) else none
  | a :: r => if Nat.beq a.1.1 1 then some (a :: a :: r) else none
  | _ => none
def ab_dup2_x1 : List ab_V → Option (List ab_V)
  | a :: b :: r => if Nat.beq a.1.1 1 && ab_k1 b then some (a :: b :: a :: r) else none
  | _ => none
def ab_dup2_x2 : List ab_V → Option (List ab_V)
  | a :: b :: d :: r => if Nat.beq a.1.1 1 && ab_k1 b && ab_k1 d then some (a :: b :: d :: a :: r) else none
  | _ => none
def ab_pop : List ab_V → Option (List ab_V)
  | a :: r => if ab_k1 a then some r else none
  | _ => none
def ab_pop2 : List ab_V → Option (List ab_V)
  | a :: r => if Nat.beq a.1.1 1 then some r else none
  | _ => none
def ab_alu (i : Instr) (st : List ab_V) : Option (List ab_V) :=
  match i with
  | .iconst n => some (((0, (Int32.ofInt n).toInt, (Int32.ofInt n).toInt, []), none) :: st)
  | .bipush n => some (((0, ((Int8.ofInt n).toInt32).toInt, ((Int8.ofInt n).toInt32).toInt, []), none) :: st)
  | .sipush n => some (((0, ((Int16.ofInt n).toInt32).toInt, ((Int16.ofInt n).toInt32).toInt, []), none) :: st)
  | .lconst n => some (((1, (Int64.ofNat (n : Nat)).toInt, (Int64.ofNat (n : Nat)).toInt, []), none) :: st)
  | .iadd => ab_ii (fun x y => x + y) (ab_radd ab_topi) st
  | .isub => ab_ii (fun x y => x - y) (ab_rsub ab_topi) st
  | .imul => ab_ii (fun x y => x * y) (ab_rtop ab_topi) st
  | .iand => ab_ii (fun x y => x &&& y) (ab_rand ab_topi) st
  | .ior => ab_ii (fun x y => x ||| y) (ab_rtop ab_topi) st
  | .ixor => ab_ii (fun x y => x ^^^ y) (ab_rtop ab_topi) st
  | .ishl => ab_ii (fun x y => x <<< (y &&& 31)) (ab_rshl ab_topi) st
  | .ishr => ab_ii (fun x y => x >>> (y &&& 31)) (ab_rshr ab_topi) st
  | .iushr => ab_ii (fun x y => (x.toUInt32 >>> (y.toUInt32 &&& Int32.toUInt32 31)).toInt32) (ab_rshr ab_topi) st
  | .ladd => ab_ll (fun x y => x + y) (ab_rtop ab_topl) st
  | .lsub => ab_ll (fun x y => x - y) (ab_rtop ab_topl) st
  | .lmul => ab_ll (fun x y => x * y) (ab_rtop ab_topl) st
  | .land => ab_ll (fun x y => x &&& y) (ab_rand ab_topl) st
  | .lor => ab_ll (fun x y => x ||| y) (ab_rtop ab_topl) st
  | .lxor => ab_ll (fun x y => x ^^^ y) (ab_rtop ab_topl) st
  | .lshl => ab_li (fun x y => x <<< (y.toInt64 &&& 63)) (ab_rshl ab_topl) st
  | .lshr => ab_li (fun x y => x >>> (y.toInt64 &&& 63)) (ab_rtop ab_topl) st
  | .lushr => ab_li (fun x y => (x.toUInt64 >>> (y.toInt64.toUInt64 &&& Int64.toUInt64 63)).toInt64) (ab_rshr ab_topl) st
  | .i2l => ab_i2l st
  | .l2i => ab_l2i st
  | .i2b => ab_itop st
  | .i2s => ab_itop st
  | .ineg => ab_itop st
  | .dup => ab_dup st
  | .dup_x1 => ab_dup_x1 st
  | .dup_x2 => ab_dup_x2 st
  | .dup2 => ab_dup2 st
  | .dup2_x1 => ab_dup2_x1 st
  | .dup2_x2 => ab_dup2_x2 st
  | .pop => ab_pop st
  | .pop2 => ab_pop2 st
  | _ => none
theorem ab_f0 {a1 a2 : Int} {r : List Nat} {v : Value} (h : ab_f (0, a1, a2, r) v) : ∃ x : Int32, v = .int x ∧ ab_in (a1, a2) x.toInt := by
  cases v <;> first | exact ⟨_, rfl, h.2⟩ | (exact absurd h.1 (by decide)) | (exact absurd h (by simp [ab_f]))
theorem ab_f1 {a1 a2 : Int} {r : List Nat} {v : Value} (h : ab_f (1, a1, a2, r) v) : ∃ x : Int64, v = .long x ∧ ab_in (a1, a2) x.toInt := by
  cases v <;> first | exact ⟨_, rfl, h.2⟩ | (exact absurd h.1 (by decide)) | (exact absurd h (by simp [ab_f]))
theorem ab_f2 {a1 a2 : Int} {r : List Nat} {v : Value} (h : ab_f (2, a1, a2, r) v) : ∃ k : Nat, v = .ref k ∧ k ∈ r := by
  cases v <;> first | exact ⟨_, rfl, h.2⟩ | (exact absurd h.1 (by decide)) | (exact absurd h (by simp [ab_f]))
theorem ab_o_none (xs : Nat → Int32) (lv : List (Nat × Value)) (hp : px_H) (v : Value) : ab_o xs lv hp none v := fun l h => by cases h
section ab_s1
variable {xs : Nat → Int32} {lv : List (Nat × Value)} {hp : px_H}
theorem ab_cat1 {a : ab_V} {v : Value} (h : ab_v xs lv hp a v) (hk : ab_k1 a = true) : v.category = 1 := by
  have h1 := h.1
  cases v with
  | long x =>
    have h2 : a.1.1 = 1 := h1.1
    simp [ab_k1, h2] at hk
  | double x => exact absurd h1 (by simp [ab_f])
  | _ => rfl
theorem ab_cat2 {a : ab_V} {v : Value} (h : ab_v xs lv hp a v) (hk : Nat.beq a.1.1 1 = true) : v.category = 2 := by
  have h1 := h.1
  have h3 := Nat.eq_of_beq_eq_true hk
  cases v with
  | long x => rfl
  | int x => have h2 : a.1.1 = 0 := h1.1; omega
  | ref x => have h2 : a.1.1 = 2 := h1.1; omega
  | retAddr x => have h2 : a.1.1 = 3 := h1; omega
  | _ => exact absurd h1 (by simp [ab_f])
theorem ab_st_cons {a : ab_V} {r : List ab_V} {st : List Value} (h : ab_st xs lv hp (a :: r) st) : ∃ v s, st = v :: s ∧ ab_v xs lv hp a v ∧ ab_st xs lv hp r s := by
  cases st with
  | nil => exact absurd h (by simp [ab_st])
  | cons v s => exact ⟨v, s, rfl, h.1, h.2⟩
theorem ab_ii_ok {f : Int32 → Int32 → Int32} {rule : ab_B → ab_B → ab_B} (hr : ∀ (a b : ab_B) (x y : Int32), ab_in a x.toInt → ab_in b y.toInt → ab_in (rule a b) (f x y).toInt) {as as' : List ab_V} {st : List Value} (h : ab_ii f rule as = some as') (hs : ab_st xs lv hp as st) : ∃ st', px_ii f st = some st' ∧ ab_st xs lv hp as' st' := by
  unfold ab_ii at h
  split at h
  · cases h
    obtain ⟨v, s, rfl, h1, hs1⟩ := ab_st_cons hs
    obtain ⟨w, t, rfl, h2, hs2⟩ := ab_st_cons hs1
    obtain ⟨y, rfl, hy⟩ := ab_f0 h1.1
    obtain ⟨x, rfl, hx⟩ := ab_f0 h2.1
    have := ab_bi_ok hr hx hy
    exact ⟨_, rfl, ⟨⟨rfl, this.1, this.2⟩, ab_o_none _ _ _ _⟩, hs2⟩
  · cases h
theorem ab_ll_ok {f : Int64 → Int64 → Int64} {rule : ab_B → ab_B → ab_B} (hr : ∀ (a b : ab_B) (x y : Int64), ab_in a x.toInt → ab_in b y.toInt → ab_in (rule a b) (f x y).toInt) {as as' : List ab_V} {st : List Value} (h : ab_ll f rule as = some as') (hs : ab_st xs lv hp as st) : ∃ st', px_ll f st = some st' ∧ ab_st xs lv hp as' st' := by
  unfold ab_ll at h
  split at h
  · cases h
    obtain ⟨v, s, rfl, h1, hs1⟩ := ab_st_cons hs
    obtain ⟨w, t, rfl, h2, hs2⟩ := ab_st_cons hs1
    obtain ⟨y, rfl, hy⟩ := ab_f1 h1.1
    obtain ⟨x, rfl, hx⟩ := ab_f1 h2.1
    have := ab_bl_ok hr hx hy
    exact ⟨_, rfl, ⟨⟨rfl, this.1, this.2⟩, ab_o_none _ _ _ _⟩, hs2⟩
  · cases h
theorem ab_li_ok {f : Int64 → Int32 → Int64} {rule : ab_B → ab_B → ab_B} (hr : ∀ (a b : ab_B) (x : Int64) (y : Int32), ab_in a x.toInt → ab_in b y.toInt → ab_in (rule a b) (f x y).toInt) {as as' : List ab_V} {st : List Value} (h : ab_li f rule as = some as') (hs : ab_st xs lv hp as st) : ∃ st', px_li f st = some st' ∧ ab_st xs lv hp as' st' := by
  unfold ab_li at h
  split at h
  · cases h
    obtain ⟨v, s, rfl, h1, hs1⟩ := ab_st_cons hs
    obtain ⟨w, t, rfl, h2, hs2⟩ := ab_st_cons hs1
    obtain ⟨y, rfl, hy⟩ := ab_f0 h1.1
    obtain ⟨x, rfl, hx⟩ := ab_f1 h2.1
    have := ab_bs_ok hr hx hy
    exact ⟨_, rfl, ⟨⟨rfl, this.1, this.2⟩, ab_o_none _ _ _ _⟩, hs2⟩
  · cases h
theorem ab_i1_ok {f : Int32 → Value} {g : List ab_V → Option (List ab_V)} (hg : ∀ as as', g as = some as' → ∃ a1 a2 q o a r, as = ((0, a1, a2, q), o) :: r ∧ as' = a :: r ∧ ∀ x : Int32, ab_in (a1, a2) x.toInt → ab_o xs lv hp o (.int x) → ab_v xs lv hp a (f x)) {as as' : List ab_V} {st : List Value} (h : g as = some as') (hs : ab_st xs lv hp as st) : ∃ st', px_i1 f st = some st' ∧ ab_st xs lv hp as' st' := by
  obtain ⟨a1, a2, q, o, a, r, rfl, rfl, hv⟩ := hg _ _ h
  obtain ⟨v, s, rfl, h1, hs1⟩ := ab_st_cons hs
  obtain ⟨x, rfl, hx⟩ := ab_f0 h1.1
  exact ⟨_, rfl, hv x hx h1.2, hs1⟩
set_option maxHeartbeats 4000000 in
theorem ab_alu_ok {i : Instr} {as as' : List ab_V} {st : List Value} (h : ab_alu i as = some as') (hs : ab_st xs lv hp as st) : ∃ st', px_alu i st = some st' ∧ ab_st xs lv hp as' st' := by
  have ref : ∀ z : Int, z ≤ z := fun z => Int.le_refl z
  cases i
  case iconst n => cases h; exact ⟨_, rfl, ⟨⟨rfl, ref _, ref _⟩, ab_o_none _ _ _ _⟩, hs⟩
  case bipush n => cases h; exact ⟨_, rfl, ⟨⟨rfl, ref _, ref _⟩, ab_o_none _ _ _ _⟩, hs⟩
  case sipush n => cases h; exact ⟨_, rfl, ⟨⟨rfl, ref _, ref _⟩, ab_o_none _ _ _ _⟩, hs⟩
  case lconst n => cases h; exact ⟨_, rfl, ⟨⟨rfl, ref _, ref _⟩, ab_o_none _ _ _ _⟩, hs⟩
  case iadd => exact ab_ii_ok ab_add_ok h hs
  case isub => exact ab_ii_ok ab_sub_ok h hs
  case imul => exact ab_ii_ok (ab_rtop_i _) h hs
  case iand => exact ab_ii_ok ab_rand_i h hs
  case ior => exact ab_ii_ok (ab_rtop_i _) h hs
  case ixor => exact ab_ii_ok (ab_rtop_i _) h hs
  case ishl => exact ab_ii_ok ab_rshl_i h hs
  case ishr => exact ab_ii_ok ab_rshr_i h hs
  case iushr => exact ab_ii_ok ab_rush_i h hs
  case ladd => exact ab_ll_ok (ab_rtop_l _) h hs
  case lsub => exact ab_ll_ok (ab_rtop_l _) h hs
  case lmul => exact ab_ll_ok (ab_rtop_l _) h hs
  case land => exact ab_ll_ok ab_rand_l h hs
  case lor => exact ab_ll_ok (ab_rtop_l _) h hs
  case lxor => exact ab_ll_ok (ab_rtop_l _) h hs
  case lshl => exact ab_li_ok ab_rshl_l h hs
  case lshr => exact ab_li_ok (ab_rtop_s _) h hs
  case lushr => exact ab_li_ok ab_rush_l h hs
  case i2l =>
    simp only [ab_alu, ab_i2l] at h
    split at h
    · cases h
      obtain ⟨v, s, rfl, h1, hs1⟩ := ab_st_cons hs
      obtain ⟨x, rfl, hx⟩ := ab_f0 h1.1
      refine ⟨_, rfl, ⟨⟨rfl, by rw [Int32.toInt_toInt64]; exact hx.1, by rw [Int32.toInt_toInt64]; exact hx.2⟩, fun l hl => ?_⟩, hs1⟩
      obtain ⟨w, hw, e⟩ := h1.2 l hl
      exact ⟨w, hw, by rw [e]; simp only [ab_num, Int32.toInt_toInt64]⟩
    · cases h
  case l2i =>
    simp only [ab_alu, ab_l2i] at h
    split at h
    · cases h
      obtain ⟨v, s, rfl, h1, hs1⟩ := ab_st_cons hs
      obtain ⟨x, rfl, hx⟩ := ab_f1 h1.1
      refine ⟨_, rfl, ⟨?_, ab_o_none _ _ _ _⟩, hs1⟩
      have hx1 := hx.1
      have hx2 := hx.2
      unfold ab_fit
      split
      · rename_i hb
        simp only [ab_topi] at hb
        refine ⟨rfl, ?_, ?_⟩ <;> (rw [Int64.toInt_toInt32, ab_bmod32 (by omega) (by omega)]; assumption)
      · exact ⟨rfl, (ab_i32 _).1, (ab_i32 _).2⟩
    · cases h
  case i2b =>
    simp only [ab_alu, ab_itop] at h
    split at h
    · cases h
      obtain ⟨v, s, rfl, h1, hs1⟩ := ab_st_cons hs
      obtain ⟨x, rfl, hx⟩ := ab_f0 h1.1
      exact ⟨_, rfl, ⟨⟨rfl, (ab_i32 _).1, (ab_i32 _).2⟩, ab_o_none _ _ _ _⟩, hs1⟩
    · cases h
  case i2s =>
    simp only [ab_alu, ab_itop] at h
    split at h
    · cases h
      obtain ⟨v, s, rfl, h1, hs1⟩ := ab_st_cons hs
      obtain ⟨x, rfl, hx⟩ := ab_f0 h1.1
      exact ⟨_, rfl, ⟨⟨rfl, (ab_i32 _).1, (ab_i32 _).2⟩, ab_o_none _ _ _ _⟩, hs1⟩
    · cases h
  case ineg =>
    simp only [ab_alu, ab_itop] at h
    split at h
    · cases h
      obtain ⟨v, s, rfl, h1, hs1⟩ := ab_st_cons hs
      obtain ⟨x, rfl, hx⟩ := ab_f0 h1.1
      exact ⟨_, rfl, ⟨⟨rfl, (ab_i32 _).1, (ab_i32 _).2⟩, ab_o_none _ _ _ _⟩, hs1⟩
    · cases h
  case dup =>
    simp only [ab_alu, ab_dup] at h
    split at h
    · split at h
      · rename_i hk
        cases h
        obtain ⟨v, s, rfl, h1, hs1⟩ := ab_st_cons hs
        exact ⟨v :: v :: s, by simp only [px_alu, px_dup, ab_cat1 h1 hk, if_true], h1, h1, hs1⟩
      · cases h
    · cases h
  case dup_x1 =>
    simp only [ab_alu, ab_dup_x1] at h
    split at h
    · split at h
      · rename_i hk
        simp only [Bool.and_eq_true] at hk
        cases h
        obtain ⟨v, s, rfl, h1, hs1⟩ := ab_st_cons hs
        obtain ⟨w, t, rfl, h2, hs2⟩ := ab_st_cons hs1
        exact ⟨v :: w :: v :: t, by simp only [px_alu, px_dup_x1, ab_cat1 h1 hk.1, ab_cat1 h2 hk.2, and_self, if_true], h1, h2, h1, hs2⟩
      · cases h
    · cases h
  case dup_x2 =>
    simp only [ab_alu, ab_dup_x2] at h
    split at h
    · split at h
      · rename_i hk
        simp only [Bool.and_eq_true] at hk
        cases h
        obtain ⟨v, s, rfl, h1, hs1⟩ := ab_st_cons hs
        obtain ⟨w, t, rfl, h2, hs2⟩ := ab_st_cons hs1
        obtain ⟨u, q, rfl, h3, hs3⟩ := ab_st_cons hs2
        exact ⟨v :: w :: u :: v :: q, by simp only [px_alu, px_dup_x2, ab_cat1 h1 hk.1.1, ab_cat1 h2 hk.1.2, ab_cat1 h3 hk.2, and_self, if_true], h1, h2, h3, h1, hs3⟩
      · cases h
    · cases h
  case dup2 =>
    simp only [ab_alu, ab_dup2] at h
    split at h
    · split at h
      · rename_i hk
        simp only [Bool.and_eq_true] at hk
        cases h
        obtain ⟨v, s, rfl, h1, hs1⟩ := ab_st_cons hs
        obtain ⟨w, t, rfl, h2, hs2⟩ := ab_st_cons hs1
        exact ⟨v :: w :: v :: w :: t, by simp only [px_alu, px_dup2, ab_cat1 h1 hk.1, ab_cat1 h2 hk.2, and_self, if_true]; rfl, h1, h2, h1, h2, hs2⟩
      · split at h
        · rename_i hk
          cases h
          obtain ⟨v, s, rfl, h1, hs1⟩ := ab_st_cons hs
          exact ⟨v :: v :: s, by simp only [px_alu, px_dup2, ab_cat2 h1 hk, if_true], h1, h1, hs1⟩
        · cases h
    · split at h
      · rename_i hk
        cases h
        obtain ⟨v, s, rfl, h1, hs1⟩ := ab_st_cons hs
        exact ⟨v :: v :: s, by simp only [px_alu, px_dup2, ab_cat2 h1 hk, if_true], h1, h1, hs1⟩
      · cases h
    · cases h
  case dup2_x1 =>
    simp only [ab_alu, ab_dup2_x1] at h
    split at h
    · split at h
      · rename_i hk
        simp only [Bool.and_eq_true] at hk
        cases h
        obtain ⟨v, s, rfl, h1, hs1⟩ := ab_st_cons hs
        obtain ⟨w, t, rfl, h2, hs2⟩ := ab_st_cons hs1
        exact ⟨v :: w :: v :: t, by simp only [px_alu, px_dup2_x1, ab_cat2 h1 hk.1, ab_cat1 h2 hk.2, and_self, if_true], h1, h2, h1, hs2⟩
      · cases h
    · cases h
  case dup2_x2 =>
    simp only [ab_alu, ab_dup2_x2] at h
    split at h
    · split at h
      · rename_i hk
        simp only [Bool.and_eq_true] at hk
        cases h
        obtain ⟨v, s, rfl, h1, hs1⟩ := ab_st_cons hs
        obtain ⟨w, t, rfl, h2, hs2⟩ := ab_st_cons hs1
        obtain ⟨u, q, rfl, h3, hs3⟩ := ab_st_cons hs2
        exact ⟨v :: w :: u :: v :: q, by simp only [px_alu, px_dup2_x2, ab_cat2 h1 hk.1.1, ab_cat1 h2 hk.1.2, ab_cat1 h3 hk.2, and_self, if_true], h1, h2, h3, h1, hs3⟩
      · cases h
    · cases h
  case pop =>
    simp only [ab_alu, ab_pop] at h
    split at h
    · split at h
      · rename_i hk
        cases h
        obtain ⟨v, s, rfl, h1, hs1⟩ := ab_st_cons hs
        exact ⟨s, by simp only [px_alu, px_pop, ab_cat1 h1 hk, if_true], hs1⟩
      · cases h
    · cases h
  case pop2 =>
    simp only [ab_alu, ab_pop2] at h
    split at h
    · split at h
      · rename_i hk
        cases h
        obtain ⟨v, s, rfl, h1, hs1⟩ := ab_st_cons hs
        exact ⟨s, by simp only [px_alu, px_pop2, ab_cat2 h1 hk, if_true], hs1⟩
      · cases h
    · cases h
  all_goals (simp only [ab_alu] at h; cases h)
end ab_s1
end
section
/-! refinement by a place -/
def ab_isn (f : ab_F) : Bool := Nat.beq f.1 0 || Nat.beq f.1 1
def ab_bnd (A : ab_S) (l : ab_L) : Option ab_B :=
  match l with
  | (0, j, _) => match px_find j A.1 with
    | some ((k, a1, a2, _), _) => if Nat.beq k 0 || Nat.beq k 1 then some (a1, a2) else none
    | none => none
  | (1, c, k) => match A.2.2.1[c]? with
    | some (.inl (_, fs)) => match fs[k]? with
      | some (k', a1, a2, _) => if Nat.beq k' 0 || Nat.beq k' 1 then some (a1, a2) else none
      | none => none
    | _ => none
  | (2, j, _) => A.2.2.2[j]?
  | _ => none
def ab_setl (q : ab_B) (j : Nat) (p : Nat × ab_V) : Nat × ab_V := match Nat.beq p.1 j with
  | true => (p.1, ((p.2.1.1, q.1, q.2, p.2.1.2.2.2), p.2.2))
  | false => p
def ab_set (A : ab_S) (l : ab_L) (q : ab_B) : ab_S :=
  match l with
  | (0, j, _) => (A.1.map (ab_setl q j), A.2)
  | (1, c, k) => match A.2.2.1[c]? with
    | some (.inl (ci, fs)) => match fs[k]? with
      | some (k', _, _, r) => (A.1, A.2.1, A.2.2.1.set c (.inl (ci, fs.set k (k', q.1, q.2, r))), A.2.2.2)
      | none => A
    | _ => A
  | (2, j, _) => (A.1, A.2.1, A.2.2.1, A.2.2.2.set j q)
  | _ => A
def ab_meet (a b : ab_B) : ab_B := (max a.1 b.1, min a.2 b.2)
def ab_refine (A : ab_S) (o : Option ab_L) (q : ab_B) : ab_S :=
  match o with
  | none => A
  | some l => match ab_bnd A l with
    | none => A
    | some b => ab_set A l (ab_meet b q)
theorem ab_meet_in {a b : ab_B} {x : Int} (h1 : ab_in a x) (h2 : ab_in b x) : ab_in (ab_meet a b) x := by
  obtain ⟨p1, p2⟩ := h1
  obtain ⟨q1, q2⟩ := h2
  exact ⟨Int.max_le.mpr ⟨p1, q1⟩, Int.le_min.mpr ⟨p2, q2⟩⟩
theorem ab_setl_fst (q : ab_B) (j : Nat) (p : Nat × ab_V) : (ab_setl q j p).1 = p.1 := by
  unfold ab_setl
  split <;> rfl
section ab_s2
variable {xs : Nat → Int32} {lv : List (Nat × Value)} {st : List Value} {hp : px_H} {A : ab_S}
theorem ab_num_f {k : Nat} {a1 a2 : Int} {r : List Nat} {v : Value} {z : Int} (h : ab_f (k, a1, a2, r) v) (hz : ab_num v = some z) : ab_in (a1, a2) z := by
  cases v <;> first | (cases hz; exact h.2) | cases hz
theorem ab_f_num {k : Nat} {a1 a2 b1 b2 : Int} {r : List Nat} {v : Value} {z : Int} (h : ab_f (k, a1, a2, r) v) (hz : ab_num v = some z) (hb : ab_in (b1, b2) z) : ab_f (k, b1, b2, r) v := by
  cases v <;> first | (cases hz; exact ⟨h.1, hb.1, hb.2⟩) | cases hz
theorem ab_num_k {k : Nat} {a1 a2 : Int} {r : List Nat} {v : Value} (h : ab_f (k, a1, a2, r) v) (hk : (Nat.beq k 0 || Nat.beq k 1) = true) : ∃ z, ab_num v = some z := by
  simp only [Bool.or_eq_true] at hk
  rcases hk with hk | hk
  · have := Nat.eq_of_beq_eq_true hk
    subst this
    obtain ⟨x, rfl, -⟩ := ab_f0 h
    exact ⟨_, rfl⟩
  · have := Nat.eq_of_beq_eq_true hk
    subst this
    obtain ⟨x, rfl, -⟩ := ab_f1 h
    exact ⟨_, rfl⟩
/-- the bounds at a place hold -/
theorem ab_bnd_ok (hA : ab_s xs A lv st hp) {l : ab_L} {b : ab_B} (h : ab_bnd A l = some b) {w : Value} (hw : ab_at xs lv hp l = some w) {z : Int} (hz : ab_num w = some z) : ab_in b z := by
  obtain ⟨h1, h2, h3, h4⟩ := hA
  unfold ab_bnd at h
  split at h
  · split at h
    · rename_i j _ k a1 a2 r o hf
      split at h
      · cases h
        obtain ⟨v, hv, hav⟩ := h1 _ _ (px_find_mem hf)
        simp only [ab_at] at hw
        rw [hv] at hw
        cases hw
        exact ab_num_f hav.1 hz
      · cases h
    · cases h
  · split at h
    · rename_i c k ci fs hc
      split at h
      · rename_i k' a1 a2 r hf
        split at h
        · cases h
          simp only [ab_at] at hw
          split at hw
          · rename_i ci' vs hx
            have := h3.2 _ _ _ hc hx
            exact ab_num_f (this.2.2 _ _ _ hf hw) hz
          · cases hw
        · cases h
      · cases h
    · cases h
  · simp only [ab_at] at hw
    cases hw
    cases hz
    exact h4 _ _ h
  · cases h
theorem ab_refine_ok (hA : ab_s xs A lv st hp) {o : Option ab_L} {q : ab_B} (ho : ∀ l, o = some l → ∃ w z, ab_at xs lv hp l = some w ∧ ab_num w = some z ∧ ab_in q z) : ab_s xs (ab_refine A o q) lv st hp := by
  unfold ab_refine
  split
  · exact hA
  · rename_i l
    split
    · exact hA
    · rename_i b hb
      obtain ⟨w, z, hw, hz, hq⟩ := ho l rfl
      have hin := ab_meet_in (ab_bnd_ok hA hb hw hz) hq
      obtain ⟨h1, h2, h3, h4⟩ := hA
      unfold ab_set
      split
      · rename_i j _
        refine ⟨fun j' a ha => ?_, h2, h3, h4⟩
        obtain ⟨⟨j0, a0⟩, hm, he⟩ := List.mem_map.mp ha
        have hj0 : j0 = j' := (ab_setl_fst (ab_meet b q) j (j0, a0)).symm.trans (by rw [he])
        subst hj0
        obtain ⟨v, hv, hav⟩ := h1 _ _ hm
        have ha2 : a = (ab_setl (ab_meet b q) j (j0, a0)).2 := by rw [he]
        subst ha2
        refine ⟨v, hv, ?_⟩
        unfold ab_setl
        split
        · rename_i hj
          have := Nat.eq_of_beq_eq_true hj
          simp only at this
          subst this
          simp only [ab_at] at hw
          rw [hv] at hw
          cases hw
          obtain ⟨⟨k, a1, a2, r⟩, o⟩ := a0
          exact ⟨ab_f_num hav.1 hz hin, hav.2⟩
        · exact hav
      · rename_i c k
        split
        · rename_i ci fs hc
          split
          · rename_i k' a1 a2 r hf
            refine ⟨h1, h2, ⟨by simp only [List.length_set]; exact h3.1, fun n a x ha hx => ?_⟩, h4⟩
            by_cases hn : n = c
            · subst hn
              have hlt : n < A.2.2.1.length := (List.getElem?_eq_some_iff.mp hc).1
              rw [List.getElem?_set_self hlt] at ha
              cases ha
              simp only [ab_at, hx] at hw
              split at hw
              · rename_i ci' vs hx'
                cases hx'
                have h9 := h3.2 _ _ _ hc hx
                refine ⟨h9.1, by rw [List.length_set]; exact h9.2.1, fun m f v hm hv => ?_⟩
                by_cases hmk : m = k
                · subst hmk
                  rw [List.getElem?_set_self (List.getElem?_eq_some_iff.mp hf).1] at hm
                  cases hm
                  rw [hv] at hw
                  cases hw
                  exact ab_f_num (h9.2.2 _ _ _ hf hv) hz hin
                · rw [List.getElem?_set_ne (Ne.symm hmk)] at hm
                  exact h9.2.2 _ _ _ hm hv
              · cases hw
            · rw [List.getElem?_set_ne (Ne.symm hn)] at ha
              exact h3.2 _ _ _ ha hx
          · exact ⟨h1, h2, h3, h4⟩
        · exact ⟨h1, h2, h3, h4⟩
      · rename_i j _
        refine ⟨h1, h2, h3, fun j' q' hq' => ?_⟩
        by_cases hj : j' = j
        · subst hj
          have hlt : j' < A.2.2.2.length := by
            have := (List.getElem?_eq_some_iff.mp hq').1
            rwa [List.length_set] at this
          rw [List.getElem?_set_self hlt] at hq'
          cases hq'
          simp only [ab_at] at hw
          cases hw
          cases hz
          exact hin
        · rw [List.getElem?_set_ne (Ne.symm hj)] at hq'
          exact h4 _ _ hq'
      · exact ⟨h1, h2, h3, h4⟩
end ab_s2
/-! branches -/
def ab_neg (c : ClassFile.Cond) : ClassFile.Cond :=
  match c with
  | .eq => .ne
  | .ne => .eq
  | .lt => .ge
  | .ge => .lt
  | .gt => .le
  | .le => .gt
def ab_rel (c : ClassFile.Cond) (x y : Int) : Prop :=
  match c with
  | .eq => x = y
  | .ne => x ≠ y
  | .lt => x < y
  | .ge => y ≤ x
  | .gt => y < x
  | .le => x ≤ y
def ab_trim (a : ab_B) (v : Int) : ab_B := (if a.1 = v then a.1 + 1 else a.1, if a.2 = v then a.2 - 1 else a.2)
def ab_cnd (c : ClassFile.Cond) (a b : ab_B) : ab_B × ab_B :=
  match c with
  | .eq => (ab_meet a b, ab_meet a b)
  | .ne => (if b.1 = b.2 then ab_trim a b.1 else a, if a.1 = a.2 then ab_trim b a.1 else b)
  | .lt => ((a.1, min a.2 (b.2 - 1)), (max b.1 (a.1 + 1), b.2))
  | .ge => ((max a.1 b.1, a.2), (b.1, min b.2 a.2))
  | .gt => ((max a.1 (b.1 + 1), a.2), (b.1, min b.2 (a.2 - 1)))
  | .le => ((a.1, min a.2 b.2), (max b.1 a.1, b.2))
theorem ab_cnd_ok {c : ClassFile.Cond} {a b : ab_B} {x y : Int} (h : ab_rel c x y) (ha : ab_in a x) (hb : ab_in b y) : ab_in (ab_cnd c a b).1 x ∧ ab_in (ab_cnd c a b).2 y := by
  obtain ⟨a1, a2⟩ := a
  obtain ⟨b1, b2⟩ := b
  simp only [ab_in] at ha hb ⊢
  cases c <;> simp only [ab_rel] at h <;> simp only [ab_cnd, ab_meet, ab_trim]
  · subst h; omega
  · refine ⟨?_, ?_⟩ <;> split <;> (try simp only) <;> (try split) <;> (try split) <;> omega
  · omega
  · omega
  · omega
  · omega
theorem ab_cmp_rel (c : ClassFile.Cond) (x y : Int32) : (px_cmp c x y = true → ab_rel c x.toInt y.toInt) ∧ (px_cmp c x y = false → ab_rel (ab_neg c) x.toInt y.toInt) := by
  cases c <;> simp only [px_cmp, ab_rel, ab_neg, decide_eq_true_eq, decide_eq_false_iff_not, Int32.lt_iff_toInt_lt, Int32.le_iff_toInt_le, ← Int32.toInt_inj] <;> refine ⟨fun h => ?_, fun h => ?_⟩ <;> omega
def ab_if (c : ClassFile.Cond) (x y : ab_V) (A : ab_S) : Option ab_S :=
  let q := ab_cnd c (x.1.2.1, x.1.2.2.1) (y.1.2.1, y.1.2.2.1)
  if q.1.1 ≤ q.1.2 ∧ q.2.1 ≤ q.2.2 then some (ab_refine (ab_refine A x.2 q.1) y.2 q.2) else none
theorem ab_if_ok {xs : Nat → Int32} {lv : List (Nat × Value)} {st : List Value} {hp : px_H} {A : ab_S} (hA : ab_s xs A lv st hp) {c : ClassFile.Cond} {x y : ab_V} {v w : Value} {a b : Int} (hx : ab_v xs lv hp x v) (hy : ab_v xs lv hp y w) (hv : ab_num v = some a) (hw : ab_num w = some b) (hr : ab_rel c a b) : ∃ A', ab_if c x y A = some A' ∧ ab_s xs A' lv st hp := by
  obtain ⟨⟨kx, x1, x2, rx⟩, ox⟩ := x
  obtain ⟨⟨ky, y1, y2, ry⟩, oy⟩ := y
  have h := ab_cnd_ok hr (ab_num_f hx.1 hv) (ab_num_f hy.1 hw)
  unfold ab_if
  simp only
  rw [if_pos ⟨Int.le_trans h.1.1 h.1.2, Int.le_trans h.2.1 h.2.2⟩]
  refine ⟨_, rfl, ab_refine_ok (ab_refine_ok hA ?_) ?_⟩
  · intro l hl
    obtain ⟨u, hu, e⟩ := hx.2 l hl
    exact ⟨u, a, hu, by rw [e, hv], h.1⟩
  · intro l hl
    obtain ⟨u, hu, e⟩ := hy.2 l hl
    exact ⟨u, b, hu, by rw [e, hw], h.2⟩
end
section
/-! places that a write touches -/
def ab_kill (P : ab_L → Bool) (a : ab_V) : ab_V :=
  match a.2 with
  | none => a
  | some l => match P l with
    | true => (a.1, none)
    | false => a
def ab_kl (j : Nat) (l : ab_L) : Bool := Nat.beq l.1 0 && (Nat.beq l.2.1 j || (Nat.beq (l.2.1 + 1) j || Nat.beq l.2.1 (j + 1)))
def ab_kf (c k : Nat) (l : ab_L) : Bool := Nat.beq l.1 1 && (Nat.beq l.2.1 c && Nat.beq l.2.2 k)
def ab_sto1 (A : ab_S) (j : Nat) (a : ab_V) (r : List ab_V) : ab_S :=
  ((j, ab_kill (ab_kl j) a) :: (A.1.filter (fun p => !(Nat.beq p.1 j) && !(Nat.beq (p.1 + 1) j && Nat.beq p.2.1.1 1))).map (fun p => (p.1, ab_kill (ab_kl j) p.2)), r.map (ab_kill (ab_kl j)), A.2.2)
def ab_sto2 (A : ab_S) (j : Nat) (a : ab_V) (r : List ab_V) : ab_S :=
  ((j, ab_kill (ab_kl j) a) :: (A.1.filter (fun p => !(Nat.beq p.1 j) && (!(Nat.beq p.1 (j + 1)) && !(Nat.beq (p.1 + 1) j && Nat.beq p.2.1.1 1)))).map (fun p => (p.1, ab_kill (ab_kl j) p.2)), r.map (ab_kill (ab_kl j)), A.2.2)
theorem ab_kill_fst (P : ab_L → Bool) (a : ab_V) : (ab_kill P a).1 = a.1 := by
  unfold ab_kill
  split
  · rfl
  · split <;> rfl
theorem ab_beq_ne {a b : Nat} (h : a ≠ b) : Nat.beq a b = false := by
  cases h' : Nat.beq a b with
  | false => rfl
  | true => exact absurd (Nat.eq_of_beq_eq_true h') h
theorem ab_kind2 {xs : Nat → Int32} {lv : List (Nat × Value)} {hp : px_H} {a : ab_V} {v : Value} (h : ab_v xs lv hp a v) (hc : v.category = 2) : Nat.beq a.1.1 1 = true := by
  have h1 := h.1
  cases v with
  | long x => rw [show a.1.1 = 1 from h1.1]; rfl
  | double x => exact absurd h1 (by simp [ab_f])
  | _ => simp [Value.category] at hc
section ab_s3
variable {xs : Nat → Int32} {lv lv' : List (Nat × Value)} {hp hp' : px_H}
theorem ab_kill_ok {P : ab_L → Bool} (hP : ∀ l w, P l = false → ab_at xs lv hp l = some w → ab_at xs lv' hp' l = some w) {a : ab_V} {v : Value} (h : ab_v xs lv hp a v) : ab_v xs lv' hp' (ab_kill P a) v := by
  refine ⟨by rw [ab_kill_fst]; exact h.1, fun l hl => ?_⟩
  unfold ab_kill at hl
  split at hl
  · rename_i h0
    rw [h0] at hl; cases hl
  · rename_i l0 h0
    split at hl
    · cases hl
    · rename_i hp0
      rw [h0] at hl
      cases hl
      obtain ⟨w, hw, e⟩ := h.2 l h0
      exact ⟨w, hP l w hp0 hw, e⟩
theorem ab_kill_st {P : ab_L → Bool} (hP : ∀ l w, P l = false → ab_at xs lv hp l = some w → ab_at xs lv' hp' l = some w) : ∀ {as : List ab_V} {st : List Value}, ab_st xs lv hp as st → ab_st xs lv' hp' (as.map (ab_kill P)) st := by
  intro as
  induction as with
  | nil => intro st h; cases st <;> first | trivial | exact absurd h (by simp [ab_st])
  | cons a r ih =>
    intro st h
    obtain ⟨v, s, rfl, h1, h2⟩ := ab_st_cons h
    exact ⟨ab_kill_ok hP h1, ih h2⟩
theorem ab_find_filter {α : Type} {p : Nat × α → Bool} {j : Nat} {l : List (Nat × α)} {v : α} (h : px_find j l = some v) (hp : p (j, v) = true) : px_find j (l.filter p) = some v := by
  induction l with
  | nil => cases h
  | cons q r ih =>
    unfold px_find at h
    split at h
    · rename_i hb
      cases h
      have := Nat.eq_of_beq_eq_true hb
      subst this
      rw [List.filter_cons_of_pos hp]
      unfold px_find
      rw [Nat.beq_refl]
    · rename_i hb
      rw [List.filter_cons]
      split
      · unfold px_find
        rw [hb]
        exact ih h
      · exact ih h
end ab_s3
/-- a store of one word -/
theorem ab_sto1_find {lv : List (Nat × Value)} {j m : Nat} {v u : Value} (h : px_find m lv = some u) (h1 : m ≠ j) (h2 : m + 1 = j → u.category ≠ 2) : px_find m (px_st1 lv j v) = some u := by
  unfold px_st1 px_find
  simp only [ab_beq_ne (Ne.symm h1)]
  refine ab_find_filter h ?_
  simp only [Bool.and_eq_true, Bool.not_eq_true', beq_eq_false_iff_ne, Bool.and_eq_false_iff]
  refine ⟨h1, ?_⟩
  by_cases h3 : m + 1 = j
  · exact Or.inr (h2 h3)
  · exact Or.inl h3
theorem ab_sto2_find {lv : List (Nat × Value)} {j m : Nat} {v u : Value} (h : px_find m lv = some u) (h1 : m ≠ j) (h0 : m ≠ j + 1) (h2 : m + 1 = j → u.category ≠ 2) : px_find m (px_st2 lv j v) = some u := by
  unfold px_st2 px_find
  simp only [ab_beq_ne (Ne.symm h1)]
  refine ab_find_filter h ?_
  simp only [Bool.and_eq_true, Bool.not_eq_true', beq_eq_false_iff_ne, Bool.and_eq_false_iff]
  refine ⟨h1, h0, ?_⟩
  by_cases h3 : m + 1 = j
  · exact Or.inr (h2 h3)
  · exact Or.inl h3
theorem ab_kl_at {lv lv' : List (Nat × Value)} {xs : Nat → Int32} {hp : px_H} {j : Nat} (hl : ∀ (m : Nat) (u : Value), m ≠ j → m + 1 ≠ j → m ≠ j + 1 → px_find m lv = some u → px_find m lv' = some u) (l : ab_L) (w : Value) (h : ab_kl j l = false) (ha : ab_at xs lv hp l = some w) : ab_at xs lv' hp l = some w := by
  obtain ⟨k, m, n⟩ := l
  unfold ab_at at ha ⊢
  split at ha
  · rename_i m0 n0 he
    cases he
    simp only [ab_kl, Nat.beq_refl, Bool.true_and, Bool.or_eq_false_iff] at h
    exact hl m w (Nat.ne_of_beq_eq_false h.1) (Nat.ne_of_beq_eq_false h.2.1) (Nat.ne_of_beq_eq_false h.2.2) ha
  · rename_i he; cases he; exact ha
  · rename_i he; cases he; exact ha
  · cases ha
section ab_s4
variable {xs : Nat → Int32} {lv : List (Nat × Value)} {st : List Value} {hp : px_H} {A : ab_S}
theorem ab_sto1_ok (hA : ab_s xs A lv st hp) {a : ab_V} {r : List ab_V} {v : Value} {s : List Value} (hv : ab_v xs lv hp a v) (hr : ab_st xs lv hp r s) (j : Nat) : ab_s xs (ab_sto1 A j a r) (px_st1 lv j v) s hp := by
  obtain ⟨h1, h2, h3, h4⟩ := hA
  have hP := ab_kl_at (xs := xs) (hp := hp) (lv := lv) (lv' := px_st1 lv j v) (j := j) (fun m u q1 q2 q3 q4 => ab_sto1_find q4 q1 (fun e => absurd e q2))
  refine ⟨fun m b hm => ?_, ab_kill_st hP hr, h3, h4⟩
  rcases List.mem_cons.mp hm with he | hm
  · cases he
    refine ⟨v, ?_, ab_kill_ok hP hv⟩
    unfold px_st1 px_find
    rw [Nat.beq_refl]
  · obtain ⟨⟨m0, b0⟩, hf, he⟩ := List.mem_map.mp hm
    cases he
    obtain ⟨hmem, hk⟩ := List.mem_filter.mp hf
    simp only [Bool.and_eq_true, Bool.not_eq_true', Bool.and_eq_false_iff] at hk
    obtain ⟨u, hu, hbu⟩ := h1 _ _ hmem
    refine ⟨u, ab_sto1_find hu (Nat.ne_of_beq_eq_false hk.1) (fun e hc => ?_), ab_kill_ok hP hbu⟩
    rcases hk.2 with h | h
    · exact Nat.ne_of_beq_eq_false h e
    · have := ab_kind2 hbu hc
      rw [this] at h
      cases h
theorem ab_sto2_ok (hA : ab_s xs A lv st hp) {a : ab_V} {r : List ab_V} {v : Value} {s : List Value} (hv : ab_v xs lv hp a v) (hr : ab_st xs lv hp r s) (j : Nat) : ab_s xs (ab_sto2 A j a r) (px_st2 lv j v) s hp := by
  obtain ⟨h1, h2, h3, h4⟩ := hA
  have hP := ab_kl_at (xs := xs) (hp := hp) (lv := lv) (lv' := px_st2 lv j v) (j := j) (fun m u q1 q2 q3 q4 => ab_sto2_find q4 q1 q3 (fun e => absurd e q2))
  refine ⟨fun m b hm => ?_, ab_kill_st hP hr, h3, h4⟩
  rcases List.mem_cons.mp hm with he | hm
  · cases he
    refine ⟨v, ?_, ab_kill_ok hP hv⟩
    unfold px_st2 px_find
    rw [Nat.beq_refl]
  · obtain ⟨⟨m0, b0⟩, hf, he⟩ := List.mem_map.mp hm
    cases he
    obtain ⟨hmem, hk⟩ := List.mem_filter.mp hf
    simp only [Bool.and_eq_true, Bool.not_eq_true', Bool.and_eq_false_iff] at hk
    obtain ⟨u, hu, hbu⟩ := h1 _ _ hmem
    refine ⟨u, ab_sto2_find hu (Nat.ne_of_beq_eq_false hk.1) (Nat.ne_of_beq_eq_false hk.2.1) (fun e hc => ?_), ab_kill_ok hP hbu⟩
    rcases hk.2.2 with h | h
    · exact Nat.ne_of_beq_eq_false h e
    · have := ab_kind2 hbu hc
      rw [this] at h
      cases h
end ab_s4
end
section
/-! one step -/
def ab_const (v : Int) : ab_V := ((0, v, v, []), none)
def ab_ld (A : ab_S) (j : Nat) (a : ab_V) : ab_V :=
  match ab_isn a.1 with
  | false => a
  | true => match a.2 with
    | some l => match ab_bnd A l with
      | some b => ((a.1.1, (ab_meet (a.1.2.1, a.1.2.2.1) b).1, (ab_meet (a.1.2.1, a.1.2.2.1) b).2, a.1.2.2.2), some l)
      | none => a
    | none => (a.1, some (0, j, 0))
def ab_tl (l : List ab_V) : List ab_V := l
/-- to a place where the condition holds -/
def ab_to (pc : Nat) (c : ClassFile.Cond) (x y : ab_V) (A : ab_S) : List (Nat × ab_S) := match ab_if c x y A with
  | some A' => [(pc, A')]
  | none => []
def ab_fits (ty : FieldType) (k : Nat) : Bool :=
  match ty with
  | .int => Nat.beq k 0
  | .long => Nat.beq k 1
  | .object _ => Nat.beq k 2
  | .array _ => Nat.beq k 2
  | _ => false
def ab_join (f g : ab_F) : ab_F := (f.1, min f.2.1 g.2.1, max f.2.2.1 g.2.2.1, f.2.2.2 ++ g.2.2.2)
/-- a field's value on the stack: a reference to many cells is taken apart -/
def ab_push (pc : Nat) (A : ab_S) (f : ab_F) (o : Option ab_L) (r : List ab_V) : Option (List (Nat × ab_S)) :=
  match f.1 with
  | 0 => some [(pc, (A.1, (f, o) :: r, A.2.2))]
  | 1 => some [(pc, (A.1, (f, o) :: r, A.2.2))]
  | 2 => some (f.2.2.2.map (fun q => (pc, (A.1, ((2, 0, 0, [q]), none) :: r, A.2.2))))
  | _ => none
def ab_aty (i : Instr) (ty : FieldType) (k : Nat) : Bool :=
  match i, ty with
  | .iaload, .int => Nat.beq k 0
  | .baload, .boolean => Nat.beq k 0
  | .laload, .long => Nat.beq k 1
  | .aaload, .object _ => Nat.beq k 2
  | _, _ => false
def ab_sty (i : Instr) (ty : FieldType) (k : Nat) (v : ab_F) : Bool :=
  match i, ty with
  | .iastore, .int => Nat.beq k 0 && Nat.beq v.1 0
  | .bastore, .boolean => Nat.beq k 0 && (Nat.beq v.1 0 && (decide (0 ≤ v.2.1) && decide (v.2.2.1 ≤ 1)))
  | .lastore, .long => Nat.beq k 1 && Nat.beq v.1 1
  | _, _ => false
def ab_aload (T : px_T) (L : Option Nat) (i : Instr) (pc : Nat) (A : ab_S) : Option (List (Nat × ab_S)) :=
  match A.2.1 with
  | ((0, i1, i2, _), _) :: ((3, _), _) :: r => match i, L with
    | .iaload, some L => match A.2.2.2[i1.toNat]?, decide (i1 = i2), decide (0 ≤ i1), decide (i1 < L) with
      | some b, true, true, true => some [(pc, (A.1, ((0, b.1, b.2, []), some (2, i1.toNat, 0)) :: r, A.2.2))]
      | _, _, _, _ => none
    | _, _ => none
  | ((0, i1, i2, _), _) :: ((2, _, _, [c]), _) :: r => match A.2.2.1[c]? with
    | some (.inr (t, n, f)) => match T.1[t]? with
      | some ty => match ab_aty i ty f.1, decide (0 ≤ i1), decide (i2 < n) with
        | true, true, true => ab_push pc A f none r
        | _, _, _ => none
      | none => none
    | _ => none
  | _ => none
def ab_astore (T : px_T) (i : Instr) (pc : Nat) (A : ab_S) : Option (List (Nat × ab_S)) :=
  match A.2.1 with
  | v :: ((0, i1, i2, _), _) :: ((2, _, _, [c]), _) :: r => match A.2.2.1[c]? with
    | some (.inr (t, n, f)) => match T.1[t]? with
      | some ty => match ab_sty i ty f.1 v.1, decide (0 ≤ i1), decide (i2 < n) with
        | true, true, true => some [(pc, (A.1, r, A.2.2.1.set c (.inr (t, n, ab_join f v.1)), A.2.2.2))]
        | _, _, _ => none
      | none => none
    | _ => none
  | _ => none
def ab_step (T : px_T) (L : Option Nat) (M : px_M) (pc : Nat) (A : ab_S) : Option (List (Nat × ab_S)) :=
  match px_find pc (px_cd M) with
  | none => none
  | some (len, i) =>
    match ab_alu i A.2.1 with
    | some st' => some [(pc + len, (A.1, st', A.2.2))]
    | none =>
      let ldn (j k : Nat) : Option (List (Nat × ab_S)) := match px_find j A.1 with
        | some a => match Nat.beq a.1.1 k with
          | true => some [(pc + len, (A.1, ab_ld A j a :: A.2.1, A.2.2))]
          | false => none
        | none => none
      let lda (j : Nat) : Option (List (Nat × ab_S)) := match px_find j A.1 with
        | some a => match Nat.beq a.1.1 2 || Nat.beq a.1.1 3 with
          | true => some [(pc + len, (A.1, (a.1, none) :: A.2.1, A.2.2))]
          | false => none
        | none => none
      let st1 (j k : Nat) : Option (List (Nat × ab_S)) := match A.2.1 with
        | a :: r => match Nat.beq a.1.1 k && decide (j < px_ml M) with
          | true => some [(pc + len, ab_sto1 A j a r)]
          | false => none
        | [] => none
      let st2 (j : Nat) : Option (List (Nat × ab_S)) := match A.2.1 with
        | a :: r => match Nat.beq a.1.1 1 && decide (j + 1 < px_ml M) with
          | true => some [(pc + len, ab_sto2 A j a r)]
          | false => none
        | [] => none
      match i with
      | .iload j => ldn j 0
      | .iload_n j => ldn j 0
      | .lload j => ldn j 1
      | .lload_n j => ldn j 1
      | .aload j => lda j
      | .aload_n j => lda j
      | .istore j => st1 j 0
      | .istore_n j => st1 j 0
      | .astore j => st1 j 2
      | .astore_n j => st1 j 2
      | .lstore j => st2 j
      | .lstore_n j => st2 j
      | .iinc j n => match px_find j A.1, decide (j < px_ml M) with
        | some ((0, a1, a2, _), _), true => some [(pc + len, ab_sto1 A j ((0, (ab_bi (fun x y => x + y) (ab_radd ab_topi) (a1, a2) ((Int32.ofInt n).toInt, (Int32.ofInt n).toInt)).1, (ab_bi (fun x y => x + y) (ab_radd ab_topi) (a1, a2) ((Int32.ofInt n).toInt, (Int32.ofInt n).toInt)).2, []), none) A.2.1)]
        | _, _ => none
      | .ifCond c off => match A.2.1 with
        | ((0, x), o) :: r => some (ab_to (px_tgt pc off) c ((0, x), o) (ab_const 0) (A.1, r, A.2.2) ++ ab_to (pc + 3) (ab_neg c) ((0, x), o) (ab_const 0) (A.1, r, A.2.2))
        | _ => none
      | .if_icmp c off => match A.2.1 with
        | ((0, y), o') :: ((0, x), o) :: r => some (ab_to (px_tgt pc off) c ((0, x), o) ((0, y), o') (A.1, r, A.2.2) ++ ab_to (pc + 3) (ab_neg c) ((0, x), o) ((0, y), o') (A.1, r, A.2.2))
        | _ => none
      | .goto off => some [(px_tgt pc off, A)]
      | .ldc idx => match px_find idx (px_cp M) with
        | some (3, _, _, v) => some [(pc + len, (A.1, ab_const (Int32.ofInt v).toInt :: A.2.1, A.2.2))]
        | _ => none
      | .ldc_w idx => match px_find idx (px_cp M) with
        | some (3, _, _, v) => some [(pc + len, (A.1, ab_const (Int32.ofInt v).toInt :: A.2.1, A.2.2))]
        | _ => none
      | .ldc2_w idx => match px_find idx (px_cp M) with
        | some (4, _, _, v) => some [(pc + len, (A.1, ((1, (Int64.ofInt v).toInt, (Int64.ofInt v).toInt, []), none) :: A.2.1, A.2.2))]
        | _ => none
      | .tableswitch dflt lo hi offs => match A.2.1 with
        | ((0, x), o) :: r => match decide (offs.size = (hi - lo + 1).toNat) with
          | true => some ((List.range offs.size).flatMap (fun (t : Nat) => match offs[t]? with
              | some off => ab_to (px_tgt pc off) .eq ((0, x), o) (ab_const (lo + (t : Int))) (A.1, r, A.2.2)
              | none => []) ++ (ab_to (px_tgt pc dflt) .lt ((0, x), o) (ab_const lo) (A.1, r, A.2.2) ++ ab_to (px_tgt pc dflt) .gt ((0, x), o) (ab_const hi) (A.1, r, A.2.2)))
          | false => none
        | _ => none
      | .getfield idx => match px_find idx (px_cp M), A.2.1 with
        | some (0, ci, k, _), ((2, _, _, [c]), _) :: r => match A.2.2.1[c]? with
          | some (.inl (ci', fs)) => match Nat.beq ci' ci, fs[k]? with
            | true, some f => ab_push (pc + len) A f (some (1, c, k)) r
            | _, _ => none
          | _ => none
        | _, _ => none
      | .putfield idx => match px_find idx (px_cp M), A.2.1 with
        | some (0, ci, k, fl), a :: ((2, _, _, [c]), _) :: r => match A.2.2.1[c]?, T.2[ci]? with
          | some (.inl (ci', fs)), some (_, tys) => match Nat.beq ci' ci, tys[k]?, decide (k < fs.length), decide (fl ≤ 2) with
            | true, some ty, true, true => match ab_fits ty a.1.1 with
              | true => some [(pc + len, (A.1.map (fun p => (p.1, ab_kill (ab_kf c k) p.2)), r.map (ab_kill (ab_kf c k)), A.2.2.1.set c (.inl (ci, fs.set k a.1)), A.2.2.2))]
              | false => none
            | _, _, _, _ => none
          | _, _ => none
        | _, _ => none
      | .arraylength => match A.2.1 with
        | ((3, _), _) :: r => match L with
          | some L => some [(pc + len, (A.1, ab_const (Int32.ofNat L).toInt :: r, A.2.2))]
          | none => none
        | ((2, _, _, [c]), _) :: r => match A.2.2.1[c]? with
          | some (.inr (t, n, _)) => match T.1[t]? with
            | some _ => some [(pc + len, (A.1, ab_const (Int32.ofNat n).toInt :: r, A.2.2))]
            | none => none
          | _ => none
        | _ => none
      | .iaload => ab_aload T L i (pc + len) A
      | .baload => ab_aload T L i (pc + len) A
      | .laload => ab_aload T L i (pc + len) A
      | .aaload => ab_aload T L i (pc + len) A
      | .iastore => ab_astore T i (pc + len) A
      | .bastore => ab_astore T i (pc + len) A
      | .lastore => ab_astore T i (pc + len) A
      | .lcmp => match A.2.1, px_find (pc + len) (px_cd M) with
        | ((1, y), o') :: ((1, x), o) :: r, some (3, .ifCond c off) => some (ab_to (px_tgt (pc + len) off) c ((1, x), o) ((1, y), o') (A.1, r, A.2.2) ++ ab_to (pc + len + 3) (ab_neg c) ((1, x), o) ((1, y), o') (A.1, r, A.2.2))
        | _, _ => none
      | _ => none
def px_its (T : px_T) (X : Option (Nat × (Nat → Int32))) (P : List px_M) (call : Nat → List Value → px_H → Option px_A) (M : px_M) (N0 : Nat) : Nat → px_S → Option px_S
  | 0, S => some S
  | k + 1, S => match px_step T X P call M N0 S with
    | some (.inl S') => px_its T X P call M N0 k S'
    | _ => none
end
section
section ab_s5
variable {xs : Nat → Int32} {lv : List (Nat × Value)} {st : List Value} {hp : px_H} {A : ab_S} {T : px_T} {X : Option (Nat × (Nat → Int32))} {P : List px_M} {M : px_M} {pc : Nat} {outs : List (Nat × ab_S)}
/-- the pure machine comes to a state that one of these holds -/
def ab_R (T : px_T) (X : Option (Nat × (Nat → Int32))) (P : List px_M) (M : px_M) (xs : Nat → Int32) (pc : Nat) (lv : List (Nat × Value)) (st : List Value) (hp : px_H) (outs : List (Nat × ab_S)) : Prop :=
  ∃ (pc' : Nat) (lv' : List (Nat × Value)) (st' : List Value) (hp' : px_H) (A' : ab_S), (pc', A') ∈ outs ∧ ab_s xs A' lv' st' hp' ∧ ∃ k : Nat, ∀ (call : Nat → List Value → px_H → Option px_A) (N0 nc ns : Nat), px_its T X P call M N0 k (pc, lv, st, hp, nc, ns) = some (pc', lv', st', hp', nc, ns)
theorem ab_one {pc' : Nat} {lv' : List (Nat × Value)} {st' : List Value} {hp' : px_H} {A' : ab_S} (hm : (pc', A') ∈ outs) (hA : ab_s xs A' lv' st' hp') (h : ∀ (call : Nat → List Value → px_H → Option px_A) (N0 nc ns : Nat), px_step T X P call M N0 (pc, lv, st, hp, nc, ns) = some (.inl (pc', lv', st', hp', nc, ns))) : ab_R T X P M xs pc lv st hp outs :=
  ⟨pc', lv', st', hp', A', hm, hA, 1, fun call N0 nc ns => by simp only [px_its, h]⟩
theorem ab_ld_ok (hA : ab_s xs A lv st hp) {j : Nat} {a : ab_V} {v : Value} (hv : px_find j lv = some v) (hav : ab_v xs lv hp a v) : ab_v xs lv hp (ab_ld A j a) v := by
  unfold ab_ld
  split
  · exact hav
  · rename_i hn
    split
    · rename_i l hl
      split
      · rename_i b hb
        obtain ⟨⟨k, a1, a2, r⟩, o⟩ := a
        obtain ⟨z, hz⟩ := ab_num_k hav.1 hn
        obtain ⟨w, hw, e⟩ := hav.2 l hl
        have h1 := ab_meet_in (ab_num_f hav.1 hz) (ab_bnd_ok hA hb hw (by rw [e]; exact hz))
        refine ⟨ab_f_num hav.1 hz h1, fun l' hl' => ?_⟩
        cases hl'
        exact ⟨w, hw, e⟩
      · exact hav
    · refine ⟨hav.1, fun l hl => ?_⟩
      cases hl
      exact ⟨v, hv, rfl⟩
theorem ab_push_ok (hA : ab_s xs A lv st hp) {f : ab_F} {o : Option ab_L} {r : List ab_V} {v : Value} {s : List Value} {q : Nat} (h : ab_push q A f o r = some outs) (hf : ab_f f v) (ho : ab_o xs lv hp o v) (hr : ab_st xs lv hp r s) : ∃ A', (q, A') ∈ outs ∧ ab_s xs A' lv (v :: s) hp := by
  obtain ⟨h1, h2, h3, h4⟩ := hA
  unfold ab_push at h
  split at h
  · cases h; exact ⟨_, List.mem_singleton.mpr rfl, h1, ⟨⟨hf, ho⟩, hr⟩, h3, h4⟩
  · cases h; exact ⟨_, List.mem_singleton.mpr rfl, h1, ⟨⟨hf, ho⟩, hr⟩, h3, h4⟩
  · rename_i hk
    cases h
    obtain ⟨k, a1, a2, rs⟩ := f
    simp only at hk
    subst hk
    obtain ⟨c, rfl, hc⟩ := ab_f2 hf
    exact ⟨_, List.mem_map.mpr ⟨c, hc, rfl⟩, h1, ⟨⟨⟨rfl, List.mem_singleton.mpr rfl⟩, ab_o_none _ _ _ _⟩, hr⟩, h3, h4⟩
  · cases h
theorem ab_to_ok (hA : ab_s xs A lv st hp) {c : ClassFile.Cond} {x y : ab_V} {v w : Value} {a b : Int} (hx : ab_v xs lv hp x v) (hy : ab_v xs lv hp y w) (hv : ab_num v = some a) (hw : ab_num w = some b) (hr : ab_rel c a b) (q : Nat) : ∃ A', (q, A') ∈ ab_to q c x y A ∧ ab_s xs A' lv st hp := by
  obtain ⟨A', h1, h2⟩ := ab_if_ok hA hx hy hv hw hr
  refine ⟨A', ?_, h2⟩
  unfold ab_to
  rw [h1]
  exact List.mem_singleton.mpr rfl
theorem ab_const_ok (v : Int32) : ab_v xs lv hp (ab_const v.toInt) (.int v) := ⟨⟨rfl, Int.le_refl _, Int.le_refl _⟩, ab_o_none _ _ _ _⟩
theorem ab_ref1 {a1 a2 : Int} {c : Nat} {o : Option ab_L} {v : Value} (h : ab_v xs lv hp ((2, a1, a2, [c]), o) v) : v = .ref c := by
  obtain ⟨k, rfl, hk⟩ := ab_f2 h.1
  rw [List.mem_singleton.mp hk]
theorem ab_cell (hA : ab_h A.2.2.1 hp) {c : Nat} {a : ab_C} (h : A.2.2.1[c]? = some a) : ∃ x, hp[c]? = some x ∧ ab_c a x := by
  have hlt := (List.getElem?_eq_some_iff.mp h).1
  rw [hA.1] at hlt
  exact ⟨hp[c], List.getElem?_eq_getElem hlt, hA.2 _ _ _ h (List.getElem?_eq_getElem hlt)⟩
theorem ab_obj (hA : ab_h A.2.2.1 hp) {c ci : Nat} {fs : List ab_F} (h : A.2.2.1[c]? = some (.inl (ci, fs))) : ∃ vs, hp[c]? = some (.inr (ci, vs)) ∧ fs.length = vs.length ∧ ∀ (k : Nat) (f : ab_F) (v : Value), fs[k]? = some f → vs[k]? = some v → ab_f f v := by
  obtain ⟨x, hx, hc⟩ := ab_cell hA h
  cases x with
  | inl q => exact absurd hc (by simp [ab_c])
  | inr q =>
    obtain ⟨ci', vs⟩ := q
    obtain ⟨rfl, h1, h2⟩ := hc
    exact ⟨vs, hx, h1, h2⟩
theorem ab_fits_ok {ty : FieldType} {a : ab_F} {v : Value} (h : ab_fits ty a.1 = true) (hv : ab_f a v) : px_fits ty v = true := by
  obtain ⟨k, a1, a2, r⟩ := a
  unfold ab_fits at h
  split at h
  · have := Nat.eq_of_beq_eq_true h; simp only at this; subst this; obtain ⟨x, rfl, -⟩ := ab_f0 hv; rfl
  · have := Nat.eq_of_beq_eq_true h; simp only at this; subst this; obtain ⟨x, rfl, -⟩ := ab_f1 hv; rfl
  · have := Nat.eq_of_beq_eq_true h; simp only at this; subst this; obtain ⟨x, rfl, -⟩ := ab_f2 hv; rfl
  · have := Nat.eq_of_beq_eq_true h; simp only at this; subst this; obtain ⟨x, rfl, -⟩ := ab_f2 hv; rfl
  · cases h
/-- a heap whose cell was set, seen by its places -/
theorem ab_at_set {c : Nat} {x : px_E} (hx : hp[c]? = some x) {l : ab_L} {w : Value} (hl : ab_at xs lv hp l = some w) {ci k : Nat} {vs : List Value} {u : Value} (hc : x = .inr (ci, vs)) (hk : ab_kf c k l = false) : ab_at xs lv (hp.set c (.inr (ci, vs.set k u))) l = some w := by
  obtain ⟨q, m, n⟩ := l
  have hlt := (List.getElem?_eq_some_iff.mp hx).1
  unfold ab_at at hl ⊢
  split at hl
  · rename_i he; cases he; exact hl
  · rename_i m0 n0 he
    cases he
    by_cases hm : m = c
    · subst hm
      rw [hx, hc] at hl
      simp only at hl
      rw [List.getElem?_set_self hlt]
      simp only
      simp only [ab_kf, Nat.beq_refl, Bool.true_and] at hk
      rw [List.getElem?_set_ne (Ne.symm (Nat.ne_of_beq_eq_false hk))]
      exact hl
    · rw [List.getElem?_set_ne (Ne.symm hm)]
      exact hl
  · rename_i he; cases he; exact hl
  · cases hl
theorem ab_at_arr {c : Nat} {x y : Nat × vp_A} (hx : hp[c]? = some (.inl x)) {l : ab_L} {w : Value} (hl : ab_at xs lv hp l = some w) : ab_at xs lv (hp.set c (.inl y)) l = some w := by
  obtain ⟨q, m, n⟩ := l
  unfold ab_at at hl ⊢
  split at hl
  · rename_i he; cases he; exact hl
  · rename_i m0 n0 he
    cases he
    by_cases hm : m = c
    · subst hm
      rw [hx] at hl
      cases hl
    · rw [List.getElem?_set_ne (Ne.symm hm)]
      exact hl
  · rename_i he; cases he; exact hl
  · cases hl
end ab_s5
end
section
section ab_s6
variable {xs : Nat → Int32} {lv : List (Nat × Value)} {st : List Value} {hp : px_H} {A : ab_S} {T : px_T} {X : Option (Nat × (Nat → Int32))} {P : List px_M} {M : px_M} {pc : Nat} {outs : List (Nat × ab_S)} {L : Option Nat}
theorem ab_k0 {k : Nat} {a1 a2 : Int} {r : List Nat} {v : Value} (hk : Nat.beq k 0 = true) (h : ab_f (k, a1, a2, r) v) : ∃ x : Int32, v = .int x ∧ ab_in (a1, a2) x.toInt := by
  have := Nat.eq_of_beq_eq_true hk
  subst this
  exact ab_f0 h
theorem ab_k1' {k : Nat} {a1 a2 : Int} {r : List Nat} {v : Value} (hk : Nat.beq k 1 = true) (h : ab_f (k, a1, a2, r) v) : ∃ x : Int64, v = .long x ∧ ab_in (a1, a2) x.toInt := by
  have := Nat.eq_of_beq_eq_true hk
  subst this
  exact ab_f1 h
theorem ab_k2 {k : Nat} {a1 a2 : Int} {r : List Nat} {v : Value} (hk : Nat.beq k 2 = true) (h : ab_f (k, a1, a2, r) v) : ∃ c : Nat, v = .ref c ∧ c ∈ r := by
  have := Nat.eq_of_beq_eq_true hk
  subst this
  exact ab_f2 h
theorem ab_inR {i1 i2 : Int} {j : Int32} {n : Nat} (hj : ab_in (i1, i2) j.toInt) (h0 : decide (0 ≤ i1) = true) (h1 : decide (i2 < (n : Int)) = true) : px_inR j n = true ∧ j.toNatClampNeg < n := by
  have a0 := of_decide_eq_true h0
  have a1 := of_decide_eq_true h1
  have b0 := hj.1
  have b1 := hj.2
  simp only at b0 b1
  refine ⟨?_, ?_⟩
  · simp only [px_inR, Bool.and_eq_true, decide_eq_true_eq]
    omega
  · have : j.toNatClampNeg = j.toInt.toNat := rfl
    omega
theorem ab_aload_ok (hA : ab_s xs A lv st hp) (hX : ∀ n, L = some n → X = some (n, xs)) {i : Instr} {q : Nat} (h : ab_aload T L i q A = some outs) : ∃ (j : Int32) (a : Value) (s : List Value) (v : Value) (A' : ab_S), st = .int j :: a :: s ∧ px_ald T X i hp a j = some v ∧ (q, A') ∈ outs ∧ ab_s xs A' lv (v :: s) hp := by
  obtain ⟨h1, h2, h3, h4⟩ := id hA
  unfold ab_aload at h
  split at h
  · rename_i i1 i2 r0 o0 x3 o3 r hst
    rw [hst] at h2
    obtain ⟨v1, s1, rfl, g1, k1⟩ := ab_st_cons h2
    obtain ⟨v2, s2, rfl, g2, k2⟩ := ab_st_cons k1
    obtain ⟨j, rfl, hj⟩ := ab_f0 g1.1
    have hv2 : ∃ z, v2 = .retAddr z := by
      have := g2.1
      cases v2 <;> first | exact ⟨_, rfl⟩ | (exact absurd this.1 (by decide)) | (exact absurd this (by simp [ab_f]))
    obtain ⟨z, rfl⟩ := hv2
    split at h
    · rename_i n
      split at h
      · rename_i b e1 e2 e3 e4
        cases h
        have d2 := of_decide_eq_true e2
        have d3 := of_decide_eq_true e3
        have d4 := of_decide_eq_true e4
        have b0 := hj.1
        have b1 := hj.2
        simp only at b0 b1
        have hjn : j.toNatClampNeg = i1.toNat := by
          have : j.toNatClampNeg = j.toInt.toNat := rfl
          rw [this]
          congr 1
          omega
        have hb := h4 _ _ e1
        refine ⟨j, .retAddr z, s2, .int (xs i1.toNat), _, rfl, ?_, List.mem_singleton.mpr rfl, h1, ⟨⟨⟨rfl, hb.1, hb.2⟩, fun l hl => ?_⟩, k2⟩, h3, h4⟩
        · have hin : px_inR j n = true := by
            simp only [px_inR, Bool.and_eq_true, decide_eq_true_eq]
            omega
          simp only [px_ald, hX n rfl, hin, hjn]
        · cases hl
          exact ⟨_, rfl, rfl⟩
      · cases h
    · cases h
  · rename_i i1 i2 r0 o0 c1 c2 c o3 r hst
    rw [hst] at h2
    obtain ⟨v1, s1, rfl, g1, k1⟩ := ab_st_cons h2
    obtain ⟨v2, s2, rfl, g2, k2⟩ := ab_st_cons k1
    obtain ⟨j, rfl, hj⟩ := ab_f0 g1.1
    have hv2 := ab_ref1 g2
    subst hv2
    split at h
    · rename_i t n f hc
      split at h
      · rename_i ty hty
        split at h
        · rename_i e1 e2 e3
          obtain ⟨hin, hlt⟩ := ab_inR hj e2 e3
          obtain ⟨x, hx, hxc⟩ := ab_cell h3 hc
          cases x with
          | inr q9 => exact absurd hxc (by simp [ab_c])
          | inl q9 =>
            obtain ⟨t', n', cont⟩ := q9
            obtain ⟨rfl, rfl, hall⟩ := hxc
            have hel := hall _ hlt
            unfold ab_aty at e1
            split at e1
            · cases cont with
              | inl g =>
                simp only at hel
                obtain ⟨A', m1, m2⟩ := ab_push_ok hA h hel (ab_o_none _ _ _ _) k2
                exact ⟨j, _, s2, _, A', rfl, by simp only [px_ald, hx, hin, hty], m1, m2⟩
              | inr g =>
                exfalso
                rcases g with g | g | g | g
                · simp only at hel; exact absurd hel.1 (by rw [Nat.eq_of_beq_eq_true e1]; decide)
                · exact hel
                · exact hel
                · simp only at hel; obtain ⟨q8, -, hq⟩ := hel; exact absurd hq.1 (by rw [Nat.eq_of_beq_eq_true e1]; decide)
            · cases cont with
              | inl g =>
                simp only at hel
                obtain ⟨A', m1, m2⟩ := ab_push_ok hA h hel (ab_o_none _ _ _ _) k2
                exact ⟨j, _, s2, _, A', rfl, by simp only [px_ald, hx, hin, hty], m1, m2⟩
              | inr g =>
                exfalso
                rcases g with g | g | g | g
                · simp only at hel; exact absurd hel.1 (by rw [Nat.eq_of_beq_eq_true e1]; decide)
                · exact hel
                · exact hel
                · simp only at hel; obtain ⟨q8, -, hq⟩ := hel; exact absurd hq.1 (by rw [Nat.eq_of_beq_eq_true e1]; decide)
            · cases cont with
              | inl g => simp only at hel; exact absurd hel.1 (by rw [Nat.eq_of_beq_eq_true e1]; decide)
              | inr g =>
                rcases g with g | g | g | g
                · simp only at hel
                  obtain ⟨A', m1, m2⟩ := ab_push_ok hA h hel (ab_o_none _ _ _ _) k2
                  exact ⟨j, _, s2, _, A', rfl, by simp only [px_ald, hx, hin, hty], m1, m2⟩
                · exact absurd hel (by simp)
                · exact absurd hel (by simp)
                · simp only at hel; obtain ⟨q8, -, hq⟩ := hel; exact absurd hq.1 (by rw [Nat.eq_of_beq_eq_true e1]; decide)
            · cases cont with
              | inl g => simp only at hel; exact absurd hel.1 (by rw [Nat.eq_of_beq_eq_true e1]; decide)
              | inr g =>
                rcases g with g | g | g | g
                · simp only at hel; exact absurd hel.1 (by rw [Nat.eq_of_beq_eq_true e1]; decide)
                · exact absurd hel (by simp)
                · exact absurd hel (by simp)
                · simp only at hel
                  obtain ⟨q8, hg, hq⟩ := hel
                  obtain ⟨A', m1, m2⟩ := ab_push_ok hA h hq (ab_o_none _ _ _ _) k2
                  exact ⟨j, _, s2, _, A', rfl, by simp only [px_ald, hx, hin, hty, hg], m1, m2⟩
            · cases e1
        · cases h
      · cases h
    · cases h
  · cases h
theorem ab_join_l {f g : ab_F} {v : Value} (h : ab_f f v) : ab_f (ab_join f g) v := by
  cases v with
  | int x => exact ⟨h.1, Int.le_trans (Int.min_le_left _ _) h.2.1, Int.le_trans h.2.2 (Int.le_max_left _ _)⟩
  | long x => exact ⟨h.1, Int.le_trans (Int.min_le_left _ _) h.2.1, Int.le_trans h.2.2 (Int.le_max_left _ _)⟩
  | ref k => exact ⟨h.1, List.mem_append_left _ h.2⟩
  | retAddr k => exact h
  | _ => exact absurd h (by simp [ab_f])
theorem ab_join_r {f g : ab_F} {v : Value} (hk : f.1 = g.1) (h : ab_f g v) : ab_f (ab_join f g) v := by
  cases v with
  | int x => exact ⟨hk.trans h.1, Int.le_trans (Int.min_le_right _ _) h.2.1, Int.le_trans h.2.2 (Int.le_max_right _ _)⟩
  | long x => exact ⟨hk.trans h.1, Int.le_trans (Int.min_le_right _ _) h.2.1, Int.le_trans h.2.2 (Int.le_max_right _ _)⟩
  | ref k => exact ⟨hk.trans h.1, List.mem_append_right _ h.2⟩
  | retAddr k => exact hk.trans h
  | _ => exact absurd h (by simp [ab_f])
theorem ab_v_mono {lv lv' : List (Nat × Value)} {hp hp' : px_H} (hP : ∀ l w, ab_at xs lv hp l = some w → ab_at xs lv' hp' l = some w) {a : ab_V} {v : Value} (h : ab_v xs lv hp a v) : ab_v xs lv' hp' a v :=
  ⟨h.1, fun l hl => by obtain ⟨w, hw, e⟩ := h.2 l hl; exact ⟨w, hP l w hw, e⟩⟩
theorem ab_st_mono {lv lv' : List (Nat × Value)} {hp hp' : px_H} (hP : ∀ l w, ab_at xs lv hp l = some w → ab_at xs lv' hp' l = some w) : ∀ {as : List ab_V} {st : List Value}, ab_st xs lv hp as st → ab_st xs lv' hp' as st := by
  intro as
  induction as with
  | nil => intro st h; cases st <;> first | trivial | exact absurd h (by simp [ab_st])
  | cons a r ih =>
    intro st h
    obtain ⟨v, s, rfl, h1, h2⟩ := ab_st_cons h
    exact ⟨ab_v_mono hP h1, ih h2⟩
/-- an array's cell set anew -/
theorem ab_set_arr (hA : ab_s xs A lv st hp) {c t n : Nat} {f f' : ab_F} {y : Nat × vp_A} {x : Nat × vp_A} (hx : hp[c]? = some (.inl x)) (hc : A.2.2.1[c]? = some (.inr (t, n, f))) (hy : ab_c (.inr (t, n, f')) (.inl y)) {r : List ab_V} {s : List Value} (hr : ab_st xs lv hp r s) : ab_s xs (A.1, r, A.2.2.1.set c (.inr (t, n, f')), A.2.2.2) lv s (hp.set c (.inl y)) := by
  obtain ⟨h1, h2, h3, h4⟩ := hA
  have hP : ∀ l w, ab_at xs lv hp l = some w → ab_at xs lv (hp.set c (.inl y)) l = some w := fun l w hl => ab_at_arr hx hl
  refine ⟨fun j a hm => ?_, ab_st_mono hP hr, ⟨by simp only [List.length_set]; exact h3.1, fun k a z ha hz => ?_⟩, h4⟩
  · obtain ⟨v, hv, hav⟩ := h1 j a hm
    exact ⟨v, hv, ab_v_mono hP hav⟩
  · by_cases hk : k = c
    · subst hk
      rw [List.getElem?_set_self (List.getElem?_eq_some_iff.mp hc).1] at ha
      rw [List.getElem?_set_self (List.getElem?_eq_some_iff.mp hx).1] at hz
      cases ha
      cases hz
      exact hy
    · rw [List.getElem?_set_ne (Ne.symm hk)] at ha hz
      exact h3.2 _ _ _ ha hz
theorem ab_astore_ok (hA : ab_s xs A lv st hp) {i : Instr} {q : Nat} (h : ab_astore T i q A = some outs) : ∃ (v : Value) (j : Int32) (a : Nat) (s : List Value) (hp' : px_H) (A' : ab_S), st = v :: .int j :: .ref a :: s ∧ px_ast T i hp a j v = some hp' ∧ (q, A') ∈ outs ∧ ab_s xs A' lv s hp' := by
  obtain ⟨h1, h2, h3, h4⟩ := id hA
  unfold ab_astore at h
  split at h
  · rename_i va i1 i2 r0 o0 c1 c2 c o3 r hst
    rw [hst] at h2
    obtain ⟨v0, s0, rfl, g0, k0⟩ := ab_st_cons h2
    obtain ⟨v1, s1, rfl, g1, k1⟩ := ab_st_cons k0
    obtain ⟨v2, s2, rfl, g2, k2⟩ := ab_st_cons k1
    obtain ⟨j, rfl, hj⟩ := ab_f0 g1.1
    have hv2 := ab_ref1 g2
    subst hv2
    split at h
    · rename_i t n f hc
      split at h
      · rename_i ty hty
        split at h
        · rename_i e1 e2 e3
          cases h
          obtain ⟨hin, hlt⟩ := ab_inR hj e2 e3
          obtain ⟨x, hx, hxc⟩ := ab_cell h3 hc
          obtain ⟨⟨kv, w1, w2, wr⟩, ov⟩ := va
          obtain ⟨kf, f1, f2, fr⟩ := f
          cases x with
          | inr q9 => exact absurd hxc (by simp [ab_c])
          | inl q9 =>
            obtain ⟨t', n', cont⟩ := q9
            obtain ⟨rfl, rfl, hall⟩ := hxc
            have hel := hall _ hlt
            unfold ab_sty at e1
            split at e1
            · simp only [Bool.and_eq_true] at e1
              obtain ⟨e4, e5⟩ := e1
              obtain ⟨y, rfl, hy⟩ := ab_k0 e5 g0.1
              have hkk : kf = kv := (Nat.eq_of_beq_eq_true e4).trans (Nat.eq_of_beq_eq_true e5).symm
              cases cont with
              | inl g =>
                refine ⟨_, j, c, s2, hp.set c (.inl (t, n, .inl (upd g j.toNatClampNeg y))), _, rfl, by simp only [px_ast, hx, hin, hty], List.mem_singleton.mpr rfl, ab_set_arr hA hx hc ⟨rfl, rfl, fun m hm => ?_⟩ k2⟩
                simp only [upd]
                split
                · exact ab_join_r hkk g0.1
                · exact ab_join_l (hall m hm)
              | inr g =>
                exfalso
                rcases g with g | g | g | g
                · simp only at hel; exact absurd hel.1 (by simp only; rw [Nat.eq_of_beq_eq_true e4]; decide)
                · exact hel
                · exact hel
                · simp only at hel; obtain ⟨q8, -, hq⟩ := hel; exact absurd hq.1 (by simp only; rw [Nat.eq_of_beq_eq_true e4]; decide)
            · simp only [Bool.and_eq_true, decide_eq_true_eq] at e1
              obtain ⟨e4, e5, e6, e7⟩ := e1
              obtain ⟨y, rfl, hy⟩ := ab_k0 e5 g0.1
              have hkk : kf = kv := (Nat.eq_of_beq_eq_true e4).trans (Nat.eq_of_beq_eq_true e5).symm
              have hy01 : (decide (y = 0) || decide (y = 1)) = true := by
                have b0 := hy.1
                have b1 := hy.2
                simp only at b0 b1
                simp only [Bool.or_eq_true, decide_eq_true_eq, ← Int32.toInt_inj]
                have z0 : (0 : Int32).toInt = 0 := rfl
                have z1 : (1 : Int32).toInt = 1 := rfl
                omega
              cases cont with
              | inl g =>
                refine ⟨_, j, c, s2, hp.set c (.inl (t, n, .inl (upd g j.toNatClampNeg y))), _, rfl, by simp only [px_ast, hx, hin, hty, hy01], List.mem_singleton.mpr rfl, ab_set_arr hA hx hc ⟨rfl, rfl, fun m hm => ?_⟩ k2⟩
                simp only [upd]
                split
                · exact ab_join_r hkk g0.1
                · exact ab_join_l (hall m hm)
              | inr g =>
                exfalso
                rcases g with g | g | g | g
                · simp only at hel; exact absurd hel.1 (by simp only; rw [Nat.eq_of_beq_eq_true e4]; decide)
                · exact hel
                · exact hel
                · simp only at hel; obtain ⟨q8, -, hq⟩ := hel; exact absurd hq.1 (by simp only; rw [Nat.eq_of_beq_eq_true e4]; decide)
            · simp only [Bool.and_eq_true] at e1
              obtain ⟨e4, e5⟩ := e1
              obtain ⟨y, rfl, hy⟩ := ab_k1' e5 g0.1
              have hkk : kf = kv := (Nat.eq_of_beq_eq_true e4).trans (Nat.eq_of_beq_eq_true e5).symm
              cases cont with
              | inl g => simp only at hel; exact absurd hel.1 (by simp only; rw [Nat.eq_of_beq_eq_true e4]; decide)
              | inr g =>
                rcases g with g | g | g | g
                · refine ⟨_, j, c, s2, hp.set c (.inl (t, n, .inr (.inl (vp_updL g j.toNatClampNeg y)))), _, rfl, by simp only [px_ast, hx, hin, hty], List.mem_singleton.mpr rfl, ab_set_arr hA hx hc ⟨rfl, rfl, fun m hm => ?_⟩ k2⟩
                  simp only [vp_updL]
                  split
                  · exact ab_join_r hkk g0.1
                  · exact ab_join_l (hall m hm)
                · exact absurd hel (by simp)
                · exact absurd hel (by simp)
                · simp only at hel; obtain ⟨q8, -, hq⟩ := hel; exact absurd hq.1 (by simp only; rw [Nat.eq_of_beq_eq_true e4]; decide)
            · cases e1
        · cases h
      · cases h
    · cases h
  · cases h
end ab_s6
end
section
theorem ab_toc_ok {xs : Nat → Int32} {lv : List (Nat × Value)} {st : List Value} {hp : px_H} {A : ab_S} (hA : ab_s xs A lv st hp) {c : ClassFile.Cond} {x : ab_V} {v : Value} {a b : Int} (hx : ab_v xs lv hp x v) (hv : ab_num v = some a) (hr : ab_rel c a b) (q : Nat) : ∃ A', (q, A') ∈ ab_to q c x (ab_const b) A ∧ ab_s xs A' lv st hp := by
  obtain ⟨⟨kx, x1, x2, rx⟩, ox⟩ := x
  have h := ab_cnd_ok hr (ab_num_f hx.1 hv) (show ab_in (b, b) b from ⟨Int.le_refl _, Int.le_refl _⟩)
  have e : ab_if c ((kx, x1, x2, rx), ox) (ab_const b) A = some (ab_refine A ox (ab_cnd c (x1, x2) (b, b)).1) := if_pos ⟨Int.le_trans h.1.1 h.1.2, Int.le_trans h.2.1 h.2.2⟩
  refine ⟨_, by unfold ab_to; rw [e]; exact List.mem_singleton.mpr rfl, ab_refine_ok hA (fun l hl => ?_)⟩
  obtain ⟨u, hu, e2⟩ := hx.2 l hl
  exact ⟨u, a, hu, by rw [e2, hv], h.1⟩
theorem ab_lcmp_rel (c : ClassFile.Cond) (x y : Int64) : (px_cmp c (lg_cmp x y) 0 = true → ab_rel c x.toInt y.toInt) ∧ (px_cmp c (lg_cmp x y) 0 = false → ab_rel (ab_neg c) x.toInt y.toInt) := by
  have z0 : (0 : Int32).toInt = 0 := rfl
  have z1 : (1 : Int32).toInt = 1 := rfl
  have z2 : (-1 : Int32).toInt = -1 := rfl
  have h := ab_cmp_rel c (lg_cmp x y) 0
  rw [z0] at h
  have e : (x > y ∧ (lg_cmp x y).toInt = 1) ∨ (x = y ∧ (lg_cmp x y).toInt = 0) ∨ (x < y ∧ (lg_cmp x y).toInt = -1) := by
    unfold lg_cmp
    split
    · rename_i h1; exact Or.inl ⟨h1, z1⟩
    · split
      · rename_i h1 h2; exact Or.inr (Or.inl ⟨h2, z0⟩)
      · rename_i h1 h2
        refine Or.inr (Or.inr ⟨?_, z2⟩)
        rw [GT.gt, Int64.lt_iff_toInt_lt] at h1
        rw [← Int64.toInt_inj] at h2
        rw [Int64.lt_iff_toInt_lt]
        omega
  rw [GT.gt, Int64.lt_iff_toInt_lt, Int64.lt_iff_toInt_lt, ← Int64.toInt_inj] at e
  refine ⟨fun h1 => ?_, fun h1 => ?_⟩
  · have h2 := h.1 h1
    cases c <;> simp only [ab_rel] at h2 ⊢ <;> omega
  · have h2 := h.2 h1
    cases c <;> simp only [ab_rel, ab_neg] at h2 ⊢ <;> omega
section ab_s7
variable {xs : Nat → Int32} {lv : List (Nat × Value)} {st : List Value} {hp : px_H} {A : ab_S} {T : px_T} {X : Option (Nat × (Nat → Int32))} {P : List px_M} {M : px_M} {pc : Nat} {outs : List (Nat × ab_S)} {L : Option Nat}
theorem ab_rest (hA : ab_s xs A lv st hp) {r : List ab_V} {s : List Value} (hr : ab_st xs lv hp r s) : ab_s xs (A.1, r, A.2.2) lv s hp := ⟨hA.1, hr, hA.2.2.1, hA.2.2.2⟩
set_option maxHeartbeats 8000000 in
set_option maxRecDepth 10000 in
theorem ab_step_ok (hA : ab_s xs A lv st hp) (hX : ∀ n, L = some n → X = some (n, xs)) (h : ab_step T L M pc A = some outs) : ab_R T X P M xs pc lv st hp outs := by
  obtain ⟨h1, h2, h3, h4⟩ := id hA
  unfold ab_step at h
  split at h
  · cases h
  rename_i len i hf
  split at h
  · rename_i st' ha
    cases h
    obtain ⟨st'', e1, e2⟩ := ab_alu_ok ha h2
    exact ab_one (List.mem_singleton.mpr rfl) ⟨h1, e2, h3, h4⟩ (fun call N0 nc ns => by simp only [px_step, hf, e1])
  rename_i ha
  cases i
  case iload j =>
    simp only at h
    split at h
    · rename_i a hja
      split at h
      · rename_i hk
        cases h
        obtain ⟨v, hv, hav⟩ := h1 _ _ (px_find_mem hja)
        obtain ⟨⟨k, a1, a2, r⟩, o⟩ := a
        obtain ⟨x, rfl, hx⟩ := ab_k0 hk hav.1
        exact ab_one (st' := .int x :: st) (List.mem_singleton.mpr rfl) ⟨h1, ⟨ab_ld_ok hA hv hav, h2⟩, h3, h4⟩ (fun call N0 nc ns => by simp only [px_step, hf, px_alu, hv])
      · cases h
    · cases h
  case iload_n j =>
    simp only at h
    split at h
    · rename_i a hja
      split at h
      · rename_i hk
        cases h
        obtain ⟨v, hv, hav⟩ := h1 _ _ (px_find_mem hja)
        obtain ⟨⟨k, a1, a2, r⟩, o⟩ := a
        obtain ⟨x, rfl, hx⟩ := ab_k0 hk hav.1
        exact ab_one (st' := .int x :: st) (List.mem_singleton.mpr rfl) ⟨h1, ⟨ab_ld_ok hA hv hav, h2⟩, h3, h4⟩ (fun call N0 nc ns => by simp only [px_step, hf, px_alu, hv])
      · cases h
    · cases h
  case lload j =>
    simp only at h
    split at h
    · rename_i a hja
      split at h
      · rename_i hk
        cases h
        obtain ⟨v, hv, hav⟩ := h1 _ _ (px_find_mem hja)
        obtain ⟨⟨k, a1, a2, r⟩, o⟩ := a
        obtain ⟨x, rfl, hx⟩ := ab_k1' hk hav.1
        exact ab_one (st' := .long x :: st) (List.mem_singleton.mpr rfl) ⟨h1, ⟨ab_ld_ok hA hv hav, h2⟩, h3, h4⟩ (fun call N0 nc ns => by simp only [px_step, hf, px_alu, hv])
      · cases h
    · cases h
  case lload_n j =>
    simp only at h
    split at h
    · rename_i a hja
      split at h
      · rename_i hk
        cases h
        obtain ⟨v, hv, hav⟩ := h1 _ _ (px_find_mem hja)
        obtain ⟨⟨k, a1, a2, r⟩, o⟩ := a
        obtain ⟨x, rfl, hx⟩ := ab_k1' hk hav.1
        exact ab_one (st' := .long x :: st) (List.mem_singleton.mpr rfl) ⟨h1, ⟨ab_ld_ok hA hv hav, h2⟩, h3, h4⟩ (fun call N0 nc ns => by simp only [px_step, hf, px_alu, hv])
      · cases h
    · cases h
  case aload j =>
    simp only at h
    split at h
    · rename_i a hja
      split at h
      · rename_i hk
        cases h
        obtain ⟨v, hv, hav⟩ := h1 _ _ (px_find_mem hja)
        obtain ⟨⟨k, a1, a2, r⟩, o⟩ := a
        have hv2 : (∃ c, v = .ref c) ∨ ∃ c, v = .retAddr c := by
          simp only [Bool.or_eq_true] at hk
          rcases hk with hk | hk
          · obtain ⟨c, rfl, -⟩ := ab_k2 hk hav.1; exact Or.inl ⟨c, rfl⟩
          · have := Nat.eq_of_beq_eq_true hk
            subst this
            have h9 := hav.1
            cases v <;> first | exact Or.inr ⟨_, rfl⟩ | (exact absurd h9.1 (by decide)) | (exact absurd h9 (by simp [ab_f]))
        rcases hv2 with ⟨c, rfl⟩ | ⟨c, rfl⟩
        · exact ab_one (st' := .ref c :: st) (List.mem_singleton.mpr rfl) ⟨h1, ⟨⟨hav.1, ab_o_none _ _ _ _⟩, h2⟩, h3, h4⟩ (fun call N0 nc ns => by simp only [px_step, hf, px_alu, hv])
        · exact ab_one (st' := .retAddr c :: st) (List.mem_singleton.mpr rfl) ⟨h1, ⟨⟨hav.1, ab_o_none _ _ _ _⟩, h2⟩, h3, h4⟩ (fun call N0 nc ns => by simp only [px_step, hf, px_alu, hv])
      · cases h
    · cases h
  case aload_n j =>
    simp only at h
    split at h
    · rename_i a hja
      split at h
      · rename_i hk
        cases h
        obtain ⟨v, hv, hav⟩ := h1 _ _ (px_find_mem hja)
        obtain ⟨⟨k, a1, a2, r⟩, o⟩ := a
        have hv2 : (∃ c, v = .ref c) ∨ ∃ c, v = .retAddr c := by
          simp only [Bool.or_eq_true] at hk
          rcases hk with hk | hk
          · obtain ⟨c, rfl, -⟩ := ab_k2 hk hav.1; exact Or.inl ⟨c, rfl⟩
          · have := Nat.eq_of_beq_eq_true hk
            subst this
            have h9 := hav.1
            cases v <;> first | exact Or.inr ⟨_, rfl⟩ | (exact absurd h9.1 (by decide)) | (exact absurd h9 (by simp [ab_f]))
        rcases hv2 with ⟨c, rfl⟩ | ⟨c, rfl⟩
        · exact ab_one (st' := .ref c :: st) (List.mem_singleton.mpr rfl) ⟨h1, ⟨⟨hav.1, ab_o_none _ _ _ _⟩, h2⟩, h3, h4⟩ (fun call N0 nc ns => by simp only [px_step, hf, px_alu, hv])
        · exact ab_one (st' := .retAddr c :: st) (List.mem_singleton.mpr rfl) ⟨h1, ⟨⟨hav.1, ab_o_none _ _ _ _⟩, h2⟩, h3, h4⟩ (fun call N0 nc ns => by simp only [px_step, hf, px_alu, hv])
      · cases h
    · cases h
  case istore j =>
    simp only at h
    split at h
    · rename_i a r hst
      split at h
      · rename_i hk
        cases h
        simp only [Bool.and_eq_true] at hk
        rw [hst] at h2
        obtain ⟨v, s, rfl, hav, hr⟩ := ab_st_cons h2
        have hav' := hav
        obtain ⟨⟨k, a1, a2, rr⟩, o⟩ := a
        obtain ⟨x, rfl, hx⟩ := ab_k0 hk.1 hav.1
        exact ab_one (List.mem_singleton.mpr rfl) (ab_sto1_ok hA hav' hr _) (fun call N0 nc ns => by simp only [px_step, hf, px_alu, hk.2])
      · cases h
    · cases h
  case istore_n j =>
    simp only at h
    split at h
    · rename_i a r hst
      split at h
      · rename_i hk
        cases h
        simp only [Bool.and_eq_true] at hk
        rw [hst] at h2
        obtain ⟨v, s, rfl, hav, hr⟩ := ab_st_cons h2
        have hav' := hav
        obtain ⟨⟨k, a1, a2, rr⟩, o⟩ := a
        obtain ⟨x, rfl, hx⟩ := ab_k0 hk.1 hav.1
        exact ab_one (List.mem_singleton.mpr rfl) (ab_sto1_ok hA hav' hr _) (fun call N0 nc ns => by simp only [px_step, hf, px_alu, hk.2])
      · cases h
    · cases h
  case astore j =>
    simp only at h
    split at h
    · rename_i a r hst
      split at h
      · rename_i hk
        cases h
        simp only [Bool.and_eq_true] at hk
        rw [hst] at h2
        obtain ⟨v, s, rfl, hav, hr⟩ := ab_st_cons h2
        have hav' := hav
        obtain ⟨⟨k, a1, a2, rr⟩, o⟩ := a
        obtain ⟨x, rfl, hx⟩ := ab_k2 hk.1 hav.1
        exact ab_one (List.mem_singleton.mpr rfl) (ab_sto1_ok hA hav' hr _) (fun call N0 nc ns => by simp only [px_step, hf, px_alu, hk.2])
      · cases h
    · cases h
  case astore_n j =>
    simp only at h
    split at h
    · rename_i a r hst
      split at h
      · rename_i hk
        cases h
        simp only [Bool.and_eq_true] at hk
        rw [hst] at h2
        obtain ⟨v, s, rfl, hav, hr⟩ := ab_st_cons h2
        have hav' := hav
        obtain ⟨⟨k, a1, a2, rr⟩, o⟩ := a
        obtain ⟨x, rfl, hx⟩ := ab_k2 hk.1 hav.1
        exact ab_one (List.mem_singleton.mpr rfl) (ab_sto1_ok hA hav' hr _) (fun call N0 nc ns => by simp only [px_step, hf, px_alu, hk.2])
      · cases h
    · cases h
  case lstore j =>
    simp only at h
    split at h
    · rename_i a r hst
      split at h
      · rename_i hk
        cases h
        simp only [Bool.and_eq_true] at hk
        rw [hst] at h2
        obtain ⟨v, s, rfl, hav, hr⟩ := ab_st_cons h2
        have hav' := hav
        obtain ⟨⟨k, a1, a2, rr⟩, o⟩ := a
        obtain ⟨x, rfl, hx⟩ := ab_k1' hk.1 hav.1
        exact ab_one (List.mem_singleton.mpr rfl) (ab_sto2_ok hA hav' hr _) (fun call N0 nc ns => by simp only [px_step, hf, px_alu, hk.2])
      · cases h
    · cases h
  case lstore_n j =>
    simp only at h
    split at h
    · rename_i a r hst
      split at h
      · rename_i hk
        cases h
        simp only [Bool.and_eq_true] at hk
        rw [hst] at h2
        obtain ⟨v, s, rfl, hav, hr⟩ := ab_st_cons h2
        have hav' := hav
        obtain ⟨⟨k, a1, a2, rr⟩, o⟩ := a
        obtain ⟨x, rfl, hx⟩ := ab_k1' hk.1 hav.1
        exact ab_one (List.mem_singleton.mpr rfl) (ab_sto2_ok hA hav' hr _) (fun call N0 nc ns => by simp only [px_step, hf, px_alu, hk.2])
      · cases h
    · cases h
  case iinc j n =>
    simp only at h
    split at h
    · rename_i a1 a2 r o hja hj
      cases h
      obtain ⟨v, hv, hav⟩ := h1 _ _ (px_find_mem hja)
      obtain ⟨x, rfl, hx⟩ := ab_f0 hav.1
      have hq := ab_bi_ok (f := fun x y => x + y) (rule := ab_radd ab_topi) ab_add_ok hx (b := ((Int32.ofInt n).toInt, (Int32.ofInt n).toInt)) (y := Int32.ofInt n) ⟨Int.le_refl _, Int.le_refl _⟩
      exact ab_one (List.mem_singleton.mpr rfl) (ab_sto1_ok hA (v := .int (x + Int32.ofInt n)) ⟨⟨rfl, hq.1, hq.2⟩, ab_o_none _ _ _ _⟩ h2 _) (fun call N0 nc ns => by simp only [px_step, hf, px_alu, hv, hj])
    · cases h
  case ifCond c off =>
    simp only at h
    split at h
    · rename_i x o r hst
      cases h
      rw [hst] at h2
      obtain ⟨v, s, rfl, hav, hr⟩ := ab_st_cons h2
      obtain ⟨z1, z2, z3⟩ := x
      obtain ⟨y, rfl, hy⟩ := ab_f0 hav.1
      cases hc : px_cmp c y 0 with
      | true =>
        obtain ⟨A', m1, m2⟩ := ab_to_ok (ab_rest hA hr) hav (ab_const_ok 0) rfl rfl ((ab_cmp_rel c y 0).1 hc) (px_tgt pc off)
        exact ab_one (List.mem_append_left _ m1) m2 (fun call N0 nc ns => by simp only [px_step, hf, px_alu, hc])
      | false =>
        obtain ⟨A', m1, m2⟩ := ab_to_ok (ab_rest hA hr) hav (ab_const_ok 0) rfl rfl ((ab_cmp_rel c y 0).2 hc) (pc + 3)
        exact ab_one (List.mem_append_right _ m1) m2 (fun call N0 nc ns => by simp only [px_step, hf, px_alu, hc])
    · cases h
  case if_icmp c off =>
    simp only at h
    split at h
    · rename_i y o' x o r hst
      cases h
      rw [hst] at h2
      obtain ⟨v, s, rfl, hav, hr0⟩ := ab_st_cons h2
      obtain ⟨w, s, rfl, haw, hr⟩ := ab_st_cons hr0
      obtain ⟨z1, z2, z3⟩ := x
      obtain ⟨t1, t2, t3⟩ := y
      obtain ⟨b, rfl, hb⟩ := ab_f0 hav.1
      obtain ⟨a, rfl, ha9⟩ := ab_f0 haw.1
      cases hc : px_cmp c a b with
      | true =>
        obtain ⟨A', m1, m2⟩ := ab_to_ok (ab_rest hA hr) haw hav rfl rfl ((ab_cmp_rel c a b).1 hc) (px_tgt pc off)
        exact ab_one (List.mem_append_left _ m1) m2 (fun call N0 nc ns => by simp only [px_step, hf, px_alu, hc])
      | false =>
        obtain ⟨A', m1, m2⟩ := ab_to_ok (ab_rest hA hr) haw hav rfl rfl ((ab_cmp_rel c a b).2 hc) (pc + 3)
        exact ab_one (List.mem_append_right _ m1) m2 (fun call N0 nc ns => by simp only [px_step, hf, px_alu, hc])
    · cases h
  case goto off =>
    cases h
    exact ab_one (List.mem_singleton.mpr rfl) hA (fun call N0 nc ns => by simp only [px_step, hf, px_alu])
  case ldc idx =>
    simp only at h
    split at h
    · rename_i v hj
      cases h
      exact ab_one (st' := .int (Int32.ofInt v) :: st) (List.mem_singleton.mpr rfl) ⟨h1, ⟨ab_const_ok _, h2⟩, h3, h4⟩ (fun call N0 nc ns => by simp only [px_step, hf, px_alu, hj])
    · cases h
  case ldc_w idx =>
    simp only at h
    split at h
    · rename_i v hj
      cases h
      exact ab_one (st' := .int (Int32.ofInt v) :: st) (List.mem_singleton.mpr rfl) ⟨h1, ⟨ab_const_ok _, h2⟩, h3, h4⟩ (fun call N0 nc ns => by simp only [px_step, hf, px_alu, hj])
    · cases h
  case ldc2_w idx =>
    simp only at h
    split at h
    · rename_i v hj
      cases h
      exact ab_one (st' := .long (Int64.ofInt v) :: st) (List.mem_singleton.mpr rfl) ⟨h1, ⟨⟨⟨rfl, Int.le_refl _, Int.le_refl _⟩, ab_o_none _ _ _ _⟩, h2⟩, h3, h4⟩ (fun call N0 nc ns => by simp only [px_step, hf, px_alu, hj])
    · cases h
  case tableswitch dflt lo hi offs =>
    simp only at h
    split at h
    · rename_i x o r hst
      split at h
      · rename_i hsz
        cases h
        have hsz := of_decide_eq_true hsz
        rw [hst] at h2
        obtain ⟨v, s, rfl, hav, hr⟩ := ab_st_cons h2
        obtain ⟨z1, z2, z3⟩ := x
        obtain ⟨y, rfl, hy⟩ := ab_f0 hav.1
        by_cases c1 : y.toInt < lo
        · obtain ⟨A', m1, m2⟩ := ab_toc_ok (ab_rest hA hr) hav rfl (c := .lt) (b := lo) c1 (px_tgt pc dflt)
          exact ab_one (List.mem_append_right _ (List.mem_append_left _ m1)) m2 (fun call N0 nc ns => by simp only [px_step, hf, px_alu, decide_eq_true c1, Bool.true_or])
        · by_cases c2 : hi < y.toInt
          · obtain ⟨A', m1, m2⟩ := ab_toc_ok (ab_rest hA hr) hav rfl (c := .gt) (b := hi) c2 (px_tgt pc dflt)
            exact ab_one (List.mem_append_right _ (List.mem_append_right _ m1)) m2 (fun call N0 nc ns => by simp only [px_step, hf, px_alu, decide_eq_true c2, Bool.or_true])
          · have hlt : (y.toInt - lo).toNat < offs.size := by omega
            have hoff : offs[(y.toInt - lo).toNat]? = some (offs[(y.toInt - lo).toNat]'hlt) := Array.getElem?_eq_getElem hlt
            obtain ⟨A', m1, m2⟩ := ab_toc_ok (ab_rest hA hr) hav rfl (c := .eq) (b := lo + ((y.toInt - lo).toNat : Int)) (show y.toInt = _ by omega) (px_tgt pc (offs[(y.toInt - lo).toNat]'hlt))
            refine ab_one (pc' := px_tgt pc (offs[(y.toInt - lo).toNat]'hlt)) (A' := A') (List.mem_append_left _ (List.mem_flatMap.mpr ⟨(y.toInt - lo).toNat, List.mem_range.mpr hlt, ?_⟩)) m2 (fun call N0 nc ns => by simp only [px_step, hf, px_alu, decide_eq_false c1, decide_eq_false c2, Bool.or_self, hoff])
            simp only [hoff]
            exact m1
      · cases h
    · cases h
  case getfield idx =>
    simp only at h
    split at h
    · rename_i ci k fl c1 c2 c o r hj hst
      rw [hst] at h2
      obtain ⟨v, s, rfl, hav, hr⟩ := ab_st_cons h2
      have hv := ab_ref1 hav
      subst hv
      split at h
      · rename_i ci' fs hc
        split at h
        · rename_i f hci hfk
          obtain ⟨vs, hx, hlen, hall⟩ := ab_obj h3 hc
          have hlt : k < vs.length := by rw [← hlen]; exact (List.getElem?_eq_some_iff.mp hfk).1
          have hvk : vs[k]? = some (vs[k]'hlt) := List.getElem?_eq_getElem hlt
          obtain ⟨A', m1, m2⟩ := ab_push_ok hA h (hall _ _ _ hfk hvk) (fun l hl => ⟨vs[k]'hlt, by cases hl; simp only [ab_at, hx, hvk], rfl⟩) hr
          exact ab_one m1 m2 (fun call N0 nc ns => by simp only [px_step, hf, px_alu, hj, hx, hci, hvk])
        · cases h
      · cases h
    · cases h
  case putfield idx =>
    simp only at h
    split at h
    · rename_i ci k fl a c1 c2 c o r hj hst
      rw [hst] at h2
      obtain ⟨u, s0, rfl, hau, hr0⟩ := ab_st_cons h2
      obtain ⟨v, s, rfl, hav, hr⟩ := ab_st_cons hr0
      have hv := ab_ref1 hav
      subst hv
      split at h
      · rename_i ci' fs n tys hc hT
        split at h
        · rename_i ty hci hty hk hfl
          split at h
          · rename_i hfit
            cases h
            obtain ⟨vs, hx, hlen, hall⟩ := ab_obj h3 hc
            have hce := Nat.eq_of_beq_eq_true hci
            subst hce
            have hkv : decide (k < vs.length) = true := by rw [← hlen]; exact hk
            have hP : ∀ l w, ab_kf c k l = false → ab_at xs lv hp l = some w → ab_at xs lv (hp.set c (.inr (ci', vs.set k u))) l = some w := fun l w q1 q2 => ab_at_set hx q2 rfl q1
            refine ab_one (lv' := lv) (st' := s) (hp' := hp.set c (.inr (ci', vs.set k u))) (List.mem_singleton.mpr rfl) ⟨fun j b hm => ?_, ab_kill_st hP hr, ⟨by simp only [List.length_set]; exact h3.1, fun m b z hb hz => ?_⟩, h4⟩ (fun call N0 nc ns => by simp only [px_step, hf, px_alu, hj, hx, hT, hci, hty, hkv, hfl, ab_fits_ok hfit hau.1])
            · obtain ⟨⟨j0, b0⟩, hm0, he⟩ := List.mem_map.mp hm
              cases he
              obtain ⟨w, hw, hbw⟩ := h1 _ _ hm0
              exact ⟨w, hw, ab_kill_ok hP hbw⟩
            · by_cases hmc : m = c
              · subst hmc
                rw [List.getElem?_set_self (List.getElem?_eq_some_iff.mp hc).1] at hb
                rw [List.getElem?_set_self (List.getElem?_eq_some_iff.mp hx).1] at hz
                cases hb
                cases hz
                refine ⟨rfl, by rw [List.length_set, List.length_set]; exact hlen, fun n f w hn hw => ?_⟩
                by_cases hnk : n = k
                · subst hnk
                  rw [List.getElem?_set_self (of_decide_eq_true hk)] at hn
                  rw [List.getElem?_set_self (of_decide_eq_true hkv)] at hw
                  cases hn
                  cases hw
                  exact hau.1
                · rw [List.getElem?_set_ne (Ne.symm hnk)] at hn hw
                  exact hall _ _ _ hn hw
              · rw [List.getElem?_set_ne (Ne.symm hmc)] at hb hz
                exact h3.2 _ _ _ hb hz
          · cases h
        · cases h
      · cases h
    · cases h
  case arraylength =>
    simp only at h
    split at h
    · rename_i x o r hst
      rw [hst] at h2
      obtain ⟨v, s, rfl, hav, hr⟩ := ab_st_cons h2
      have hv2 : ∃ z, v = .retAddr z := by
        have := hav.1
        cases v <;> first | exact ⟨_, rfl⟩ | (exact absurd this.1 (by decide)) | (exact absurd this (by simp [ab_f]))
      obtain ⟨z, rfl⟩ := hv2
      split at h
      · rename_i n
        cases h
        exact ab_one (st' := .int (Int32.ofNat n) :: s) (List.mem_singleton.mpr rfl) ⟨h1, ⟨ab_const_ok _, hr⟩, h3, h4⟩ (fun call N0 nc ns => by simp only [px_step, hf, px_alu, hX n rfl])
      · cases h
    · rename_i c1 c2 c o r hst
      rw [hst] at h2
      obtain ⟨v, s, rfl, hav, hr⟩ := ab_st_cons h2
      have hv := ab_ref1 hav
      subst hv
      split at h
      · rename_i t n f hc
        split at h
        · rename_i ty hty
          cases h
          obtain ⟨x, hx, hxc⟩ := ab_cell h3 hc
          cases x with
          | inr q9 => exact absurd hxc (by simp [ab_c])
          | inl q9 =>
            obtain ⟨t', n', cont⟩ := q9
            obtain ⟨rfl, rfl, hall⟩ := hxc
            exact ab_one (st' := .int (Int32.ofNat n) :: s) (List.mem_singleton.mpr rfl) ⟨h1, ⟨ab_const_ok _, hr⟩, h3, h4⟩ (fun call N0 nc ns => by simp only [px_step, hf, px_alu, hx, hty])
        · cases h
      · cases h
    · cases h
  case iaload =>
    obtain ⟨j, a, s, v, A', rfl, e1, e2, e3⟩ := ab_aload_ok hA hX h
    exact ab_one e2 e3 (fun call N0 nc ns => by simp only [px_step, hf, px_alu, e1, Option.map_some])
  case baload =>
    obtain ⟨j, a, s, v, A', rfl, e1, e2, e3⟩ := ab_aload_ok hA hX h
    exact ab_one e2 e3 (fun call N0 nc ns => by simp only [px_step, hf, px_alu, e1, Option.map_some])
  case laload =>
    obtain ⟨j, a, s, v, A', rfl, e1, e2, e3⟩ := ab_aload_ok hA hX h
    exact ab_one e2 e3 (fun call N0 nc ns => by simp only [px_step, hf, px_alu, e1, Option.map_some])
  case aaload =>
    obtain ⟨j, a, s, v, A', rfl, e1, e2, e3⟩ := ab_aload_ok hA hX h
    exact ab_one e2 e3 (fun call N0 nc ns => by simp only [px_step, hf, px_alu, e1, Option.map_some])
  case iastore =>
    obtain ⟨v, j, a, s, hp', A', rfl, e1, e2, e3⟩ := ab_astore_ok hA h
    exact ab_one e2 e3 (fun call N0 nc ns => by simp only [px_step, hf, px_alu, e1, Option.map_some])
  case bastore =>
    obtain ⟨v, j, a, s, hp', A', rfl, e1, e2, e3⟩ := ab_astore_ok hA h
    exact ab_one e2 e3 (fun call N0 nc ns => by simp only [px_step, hf, px_alu, e1, Option.map_some])
  case lastore =>
    obtain ⟨v, j, a, s, hp', A', rfl, e1, e2, e3⟩ := ab_astore_ok hA h
    exact ab_one e2 e3 (fun call N0 nc ns => by simp only [px_step, hf, px_alu, e1, Option.map_some])
  case lcmp =>
    simp only at h
    split at h
    · rename_i y o' x o r c off hst hf2
      cases h
      rw [hst] at h2
      obtain ⟨v, s0, rfl, hav, hr0⟩ := ab_st_cons h2
      obtain ⟨w, s, rfl, haw, hr⟩ := ab_st_cons hr0
      obtain ⟨z1, z2, z3⟩ := x
      obtain ⟨t1, t2, t3⟩ := y
      obtain ⟨b, rfl, hb⟩ := ab_f1 hav.1
      obtain ⟨a, rfl, ha9⟩ := ab_f1 haw.1
      cases hc : px_cmp c (lg_cmp a b) 0 with
      | true =>
        obtain ⟨A', m1, m2⟩ := ab_to_ok (ab_rest hA hr) haw hav rfl rfl ((ab_lcmp_rel c a b).1 hc) (px_tgt (pc + len) off)
        exact ⟨_, _, _, _, A', List.mem_append_left _ m1, m2, 2, fun call N0 nc ns => by simp only [px_its, px_step, hf, px_alu, px_lc, hf2, hc]⟩
      | false =>
        obtain ⟨A', m1, m2⟩ := ab_to_ok (ab_rest hA hr) haw hav rfl rfl ((ab_lcmp_rel c a b).2 hc) (pc + len + 3)
        exact ⟨_, _, _, _, A', List.mem_append_right _ m1, m2, 2, fun call N0 nc ns => by simp only [px_its, px_step, hf, px_alu, px_lc, hf2, hc]⟩
    · cases h
  all_goals cases h
end ab_s7
end
section
/-! runs -/
abbrev ab_O : Type := Option ab_V × List ab_C × List (Int × Int)
def ab_isl (l : ab_L) : Bool := Nat.beq l.1 0
def ab_isf (l : ab_L) : Bool := Nat.beq l.1 1
def ab_all {α β γ : Type} (f : α → Option (List β × List γ)) : List α → Option (List β × List γ)
  | [] => some ([], [])
  | a :: r => match f a with
    | none => none
    | some x => match ab_all f r with
      | none => none
      | some y => some (x.1 ++ y.1, x.2 ++ y.2)
def ab_args : Nat → List ab_V → List (Nat × ab_V)
  | _, [] => []
  | i, a :: r => (i, a) :: ab_args (if Nat.beq a.1.1 1 then i + 2 else i + 1) r
def ab_cat (a : ab_V) : Nat := if Nat.beq a.1.1 1 then 2 else 1
def ab_ret (M : px_M) (i : Instr) (A : ab_S) : Option ab_O :=
  match i, A.2.1, px_rt M with
  | .ireturn, [((0, a1, a2, r), o)], some .int => some (some (ab_kill ab_isl ((0, a1, a2, r), o)), A.2.2)
  | .ireturn, [((0, a1, a2, r), o)], some .boolean => if 0 ≤ a1 ∧ a2 ≤ 1 then some (some (ab_kill ab_isl ((0, a1, a2, r), o)), A.2.2) else none
  | .lreturn, [((1, x), o)], some .long => some (some (ab_kill ab_isl ((1, x), o)), A.2.2)
  | .return_, [], none => some (none, A.2.2)
  | _, _, _ => none
def ab_math (w : Nat) (st : List ab_V) : Option (List ab_V) :=
  match w, st with
  | 0, ((0, b1, b2, _), _) :: ((0, a1, a2, _), _) :: r => some (((0, max a1 b1, max a2 b2, []), none) :: r)
  | 1, ((0, b1, b2, _), _) :: ((0, a1, a2, _), _) :: r => some (((0, min a1 b1, min a2 b2, []), none) :: r)
  | 2, ((1, b1, b2, _), _) :: ((1, a1, a2, _), _) :: r => some (((1, max a1 b1, max a2 b2, []), none) :: r)
  | 3, ((1, b1, b2, _), _) :: ((1, a1, a2, _), _) :: r => some (((1, min a1 b1, min a2 b2, []), none) :: r)
  | _, _ => none
/-- a call's own conditions -/
def ab_callok (N : px_M) (k : Nat) (st : List ab_V) : Bool :=
  decide (k ≤ st.length) && (decide (((st.drop k).map ab_cat).sum ≤ 8) && (decide ((px_rm N).cells = 0) && (decide ((px_rm N).slots = 0) && decide (((st.take k).map ab_cat).sum ≤ px_ml N))))
/-- behind a call: the caller's state with what came back -/
def ab_back (A : ab_S) (k : Nat) (o : ab_O) : ab_S :=
  (A.1.map (fun p => (p.1, ab_kill ab_isf p.2)), o.1.toList ++ (A.2.1.drop k).map (ab_kill ab_isf), o.2.1, o.2.2)
def ab_run (T : px_T) (P : List px_M) : Nat → Option Nat → List Nat → px_M → Nat → ab_S → Option (List ab_O × List (Nat × ab_S))
  | 0, _, _, _, _, _ => none
  | n + 1, L, stop, M, pc, A =>
    match stop.contains pc with
    | true => some ([], [(pc, A)])
    | false => match px_find pc (px_cd M) with
      | none => none
      | some (len, i) =>
        match ab_ret M i A with
        | some o => some ([o], [])
        | none =>
          let call (k mi : Nat) : Option (List ab_O × List (Nat × ab_S)) := match P[mi]? with
            | none => none
            | some N => match ab_callok N k A.2.1 with
              | false => none
              | true => match ab_run T P n none [] N 0 (ab_args 0 ((A.2.1.take k).reverse.map (ab_kill ab_isl)), [], A.2.2) with
                | some (outs, []) => ab_all (fun o => ab_run T P n L stop M (pc + 3) (ab_back A k o)) outs
                | _ => none
          match i with
          | .invokevirtual idx => match px_find idx (px_cp M) with
            | some (1, mi, na, ci) => match A.2.1[na]? with
              | some ((2, _, _, [c]), _) => match A.2.2.1[c]? with
                | some (.inl (ci', _)) => match Nat.beq ci' ci.toNat with
                  | true => call (na + 1) mi
                  | false => none
                | _ => none
              | _ => none
            | _ => none
          | .invokestatic idx => match px_find idx (px_cp M) with
            | some (2, mi, na, _) => call na mi
            | some (11, w, _, _) => match ab_math w A.2.1, decide (((A.2.1.drop 2).map ab_cat).sum ≤ 8) with
              | some st', true => ab_run T P n L stop M (pc + 3) (A.1, st', A.2.2)
              | _, _ => none
            | _ => none
          | _ => match ab_step T L M pc A with
            | none => none
            | some outs => ab_all (fun q => ab_run T P n L stop M q.1 q.2) outs
def ab_o' (xs : Nat → Int32) (o : ab_O) (r : Option Value) (hp : px_H) : Prop :=
  (match o.1, r with
    | none, none => True
    | some a, some v => ab_v xs [] hp a v
    | _, _ => False) ∧ ab_h o.2.1 hp ∧ ab_x o.2.2 xs
theorem ab_all_ok {α β γ : Type} {f : α → Option (List β × List γ)} : ∀ {l : List α} {o : List β × List γ}, ab_all f l = some o → ∀ a ∈ l, ∃ x, f a = some x ∧ (∀ b ∈ x.1, b ∈ o.1) ∧ ∀ c ∈ x.2, c ∈ o.2 := by
  intro l
  induction l with
  | nil => intro o h a ha; cases ha
  | cons q r ih =>
    intro o h a ha
    unfold ab_all at h
    split at h
    · cases h
    · rename_i x hx
      split at h
      · cases h
      · rename_i y hy
        cases h
        rcases List.mem_cons.mp ha with rfl | ha
        · exact ⟨x, hx, fun b hb => List.mem_append_left _ hb, fun c hc => List.mem_append_left _ hc⟩
        · obtain ⟨z, h1, h2, h3⟩ := ih hy a ha
          exact ⟨z, h1, fun b hb => List.mem_append_right _ (h2 b hb), fun c hc => List.mem_append_right _ (h3 c hc)⟩
section ab_s8
variable {T : px_T} {X : Option (Nat × (Nat → Int32))} {P : List px_M} {M : px_M} {call : Nat → List Value → px_H → Option px_A} {N0 : Nat}
theorem px_its_run : ∀ (k : Nat) {S S1 : px_S} {k2 : Nat} {r : px_A}, px_its T X P call M N0 k S = some S1 → px_run T X P call M N0 k2 S1 = some r → px_run T X P call M N0 (k + k2) S = some r := by
  intro k
  induction k with
  | zero => intro S S1 k2 r h1 h2; cases h1; rw [Nat.zero_add]; exact h2
  | succ k ih =>
    intro S S1 k2 r h1 h2
    unfold px_its at h1
    split at h1
    · rename_i S2 hs
      rw [Nat.add_right_comm]
      unfold px_run
      rw [hs]
      exact ih h1 h2
    · cases h1
theorem px_its_add : ∀ (k : Nat) {S S1 : px_S} {k2 : Nat} {S2 : px_S}, px_its T X P call M N0 k S = some S1 → px_its T X P call M N0 k2 S1 = some S2 → px_its T X P call M N0 (k + k2) S = some S2 := by
  intro k
  induction k with
  | zero => intro S S1 k2 r h1 h2; cases h1; rw [Nat.zero_add]; exact h2
  | succ k ih =>
    intro S S1 k2 r h1 h2
    unfold px_its at h1
    split at h1
    · rename_i S2 hs
      rw [Nat.add_right_comm]
      unfold px_its
      rw [hs]
      exact ih h1 h2
    · cases h1
theorem px_run_mono : ∀ (k : Nat) {S : px_S} {r : px_A} (m : Nat), px_run T X P call M N0 k S = some r → px_run T X P call M N0 (k + m) S = some r := by
  intro k
  induction k with
  | zero => intro S r m h; cases h
  | succ k ih =>
    intro S r m h
    rw [Nat.add_right_comm]
    unfold px_run at h ⊢
    split at h
    · cases h
    · rename_i s' hs
      exact ih m h
    · cases h
      rfl
end ab_s8
end
section
abbrev ab_nn : Nat → List Value → px_H → Option px_A := fun _ _ _ => none
section ab_s9
variable {xs : Nat → Int32} {lv : List (Nat × Value)} {hp : px_H}
theorem ab_isl_at {lv' : List (Nat × Value)} (l : ab_L) (w : Value) (h : ab_isl l = false) (hl : ab_at xs lv hp l = some w) : ab_at xs lv' hp l = some w := by
  obtain ⟨q, m, n⟩ := l
  unfold ab_at at hl ⊢
  split at hl
  · rename_i he; cases he; cases h
  · rename_i he; cases he; exact hl
  · rename_i he; cases he; exact hl
  · cases hl
theorem ab_isf_at {hp' : px_H} (l : ab_L) (w : Value) (h : ab_isf l = false) (hl : ab_at xs lv hp l = some w) : ab_at xs lv hp' l = some w := by
  obtain ⟨q, m, n⟩ := l
  unfold ab_at at hl ⊢
  split at hl
  · rename_i he; cases he; exact hl
  · rename_i he; cases he; cases h
  · rename_i he; cases he; exact hl
  · cases hl
theorem ab_nil_at {lv' : List (Nat × Value)} (l : ab_L) (w : Value) (hl : ab_at xs [] hp l = some w) : ab_at xs lv' hp l = some w := by
  obtain ⟨q, m, n⟩ := l
  unfold ab_at at hl ⊢
  split at hl
  · cases hl
  · rename_i he; cases he; exact hl
  · rename_i he; cases he; exact hl
  · cases hl
theorem ab_cat_eq {a : ab_V} {v : Value} (h : ab_v xs lv hp a v) : ab_cat a = v.category := by
  unfold ab_cat
  split
  · rename_i hk; exact (ab_cat2 h hk).symm
  · rename_i hk
    have : v.category ≠ 2 := fun hc => hk (ab_kind2 h hc)
    cases v <;> first | rfl | exact absurd rfl this
theorem ab_st_cat : ∀ {as : List ab_V} {st : List Value}, ab_st xs lv hp as st → as.map ab_cat = st.map (fun v => v.category) := by
  intro as
  induction as with
  | nil => intro st h; cases st <;> first | rfl | exact absurd h (by simp [ab_st])
  | cons a r ih =>
    intro st h
    obtain ⟨v, s, rfl, h1, h2⟩ := ab_st_cons h
    rw [List.map_cons, List.map_cons, ih h2, ab_cat_eq h1]
theorem ab_st_len {as : List ab_V} {st : List Value} (h : ab_st xs lv hp as st) : as.length = st.length := by
  have := congrArg List.length (ab_st_cat h)
  rwa [List.length_map, List.length_map] at this
theorem ab_st_drop : ∀ (k : Nat) {as : List ab_V} {st : List Value}, ab_st xs lv hp as st → ab_st xs lv hp (as.drop k) (st.drop k) := by
  intro k
  induction k with
  | zero => intro as st h; exact h
  | succ k ih =>
    intro as st h
    cases as with
    | nil => cases st <;> first | exact h | exact absurd h (by simp [ab_st])
    | cons a r =>
      obtain ⟨v, s, rfl, h1, h2⟩ := ab_st_cons h
      exact ih h2
theorem ab_st_take : ∀ (k : Nat) {as : List ab_V} {st : List Value}, ab_st xs lv hp as st → ab_st xs lv hp (as.take k) (st.take k) := by
  intro k
  induction k with
  | zero => intro as st h; rw [List.take_zero, List.take_zero]; trivial
  | succ k ih =>
    intro as st h
    cases as with
    | nil => cases st <;> first | exact h | exact absurd h (by simp [ab_st])
    | cons a r =>
      obtain ⟨v, s, rfl, h1, h2⟩ := ab_st_cons h
      exact ⟨h1, ih h2⟩
theorem ab_st_app : ∀ {a1 a2 : List ab_V} {s1 s2 : List Value}, ab_st xs lv hp a1 s1 → ab_st xs lv hp a2 s2 → ab_st xs lv hp (a1 ++ a2) (s1 ++ s2) := by
  intro a1
  induction a1 with
  | nil => intro a2 s1 s2 h1 h2; cases s1 <;> first | exact h2 | exact absurd h1 (by simp [ab_st])
  | cons a r ih =>
    intro a2 s1 s2 h1 h2
    obtain ⟨v, s, rfl, h3, h4⟩ := ab_st_cons h1
    exact ⟨h3, ih h4 h2⟩
theorem ab_st_rev : ∀ {as : List ab_V} {st : List Value}, ab_st xs lv hp as st → ab_st xs lv hp as.reverse st.reverse := by
  intro as
  induction as with
  | nil => intro st h; cases st <;> first | exact h | exact absurd h (by simp [ab_st])
  | cons a r ih =>
    intro st h
    obtain ⟨v, s, rfl, h1, h2⟩ := ab_st_cons h
    rw [List.reverse_cons, List.reverse_cons]
    exact ab_st_app (ih h2) ⟨h1, trivial⟩
theorem ab_args_ge : ∀ {as : List ab_V} {i j : Nat} {a : ab_V}, (j, a) ∈ ab_args i as → i ≤ j := by
  intro as
  induction as with
  | nil => intro i j a h; cases h
  | cons b r ih =>
    intro i j a h
    unfold ab_args at h
    rcases List.mem_cons.mp h with he | h
    · cases he; exact Nat.le_refl _
    · have := ih h
      split at this <;> omega
theorem ab_args_ok : ∀ {as : List ab_V} {vs : List Value} (i : Nat), ab_st xs lv hp as vs → ∀ (j : Nat) (a : ab_V), (j, a) ∈ ab_args i as → ∃ v, px_find j (lv_args i vs) = some v ∧ ab_v xs lv hp a v := by
  intro as
  induction as with
  | nil => intro vs i h j a hm; cases hm
  | cons b r ih =>
    intro vs i h j a hm
    obtain ⟨v, s, rfl, h1, h2⟩ := ab_st_cons h
    unfold ab_args at hm
    rcases List.mem_cons.mp hm with he | hm
    · cases he
      refine ⟨v, ?_, h1⟩
      unfold lv_args px_find
      rw [Nat.beq_refl]
    · have hge := ab_args_ge hm
      obtain ⟨u, hu, hau⟩ := ih _ h2 j a hm
      refine ⟨u, ?_, hau⟩
      have hij : Nat.beq i j = false := ab_beq_ne (by split at hge <;> omega)
      unfold lv_args px_find
      simp only [hij]
      have hcat : (if v.category = 2 then i + 2 else i + 1) = (if Nat.beq b.1.1 1 = true then i + 2 else i + 1) := by
        by_cases hc : v.category = 2
        · rw [if_pos hc, if_pos (ab_kind2 h1 hc)]
        · rw [if_neg hc, if_neg (fun hk => hc (ab_cat2 h1 hk))]
      rw [hcat]
      exact hu
theorem ab_lg (vs : List Value) : (lg_sl vs).length = (vs.map fun v => v.category).sum ∨ ∃ v ∈ vs, v.category ≠ 1 ∧ v.category ≠ 2 := by
  induction vs with
  | nil => exact Or.inl rfl
  | cons v r ih =>
    rcases ih with ih | ⟨u, hu, h⟩
    · by_cases h2 : v.category = 2
      · left
        simp only [lg_sl, List.flatMap_cons, List.length_append, List.map_cons, List.sum_cons] at ih ⊢
        rw [ih, if_pos h2, h2]
        rfl
      · by_cases h1 : v.category = 1
        · left
          simp only [lg_sl, List.flatMap_cons, List.length_append, List.map_cons, List.sum_cons] at ih ⊢
          rw [ih, if_neg h2, h1]
          rfl
        · exact Or.inr ⟨v, List.mem_cons_self, h1, h2⟩
    · exact Or.inr ⟨u, List.mem_cons_of_mem _ hu, h⟩
theorem ab_cat12 (v : Value) : v.category = 1 ∨ v.category = 2 := by cases v <;> first | exact Or.inl rfl | exact Or.inr rfl
theorem ab_lg' (vs : List Value) : (lg_sl vs).length = (vs.map fun v => v.category).sum := by
  rcases ab_lg vs with h | ⟨v, -, h1, h2⟩
  · exact h
  · rcases ab_cat12 v with h | h
    · exact absurd h h1
    · exact absurd h h2
theorem ab_math_ok {w : Nat} {as as' : List ab_V} {st : List Value} (h : ab_math w as = some as') (hs : ab_st xs lv hp as st) : ∃ st', px_math w st = some st' ∧ ab_st xs lv hp as' st' := by
  unfold ab_math at h
  split at h
  · cases h
    obtain ⟨v, s0, rfl, g1, k1⟩ := ab_st_cons hs
    obtain ⟨u, s, rfl, g2, k2⟩ := ab_st_cons k1
    obtain ⟨y, rfl, hy⟩ := ab_f0 g1.1
    obtain ⟨x, rfl, hx⟩ := ab_f0 g2.1
    refine ⟨_, rfl, ⟨⟨rfl, ?_, ?_⟩, ab_o_none _ _ _ _⟩, k2⟩ <;> (have q1 := hx.1; have q2 := hx.2; have q3 := hy.1; have q4 := hy.2; simp only at q1 q2 q3 q4 ⊢; split <;> rename_i hc <;> rw [Int32.lt_iff_toInt_lt] at hc <;> omega)
  · cases h
    obtain ⟨v, s0, rfl, g1, k1⟩ := ab_st_cons hs
    obtain ⟨u, s, rfl, g2, k2⟩ := ab_st_cons k1
    obtain ⟨y, rfl, hy⟩ := ab_f0 g1.1
    obtain ⟨x, rfl, hx⟩ := ab_f0 g2.1
    refine ⟨_, rfl, ⟨⟨rfl, ?_, ?_⟩, ab_o_none _ _ _ _⟩, k2⟩ <;> (have q1 := hx.1; have q2 := hx.2; have q3 := hy.1; have q4 := hy.2; simp only at q1 q2 q3 q4 ⊢; split <;> rename_i hc <;> rw [Int32.lt_iff_toInt_lt] at hc <;> omega)
  · cases h
    obtain ⟨v, s0, rfl, g1, k1⟩ := ab_st_cons hs
    obtain ⟨u, s, rfl, g2, k2⟩ := ab_st_cons k1
    obtain ⟨y, rfl, hy⟩ := ab_f1 g1.1
    obtain ⟨x, rfl, hx⟩ := ab_f1 g2.1
    refine ⟨_, rfl, ⟨⟨rfl, ?_, ?_⟩, ab_o_none _ _ _ _⟩, k2⟩ <;> (have q1 := hx.1; have q2 := hx.2; have q3 := hy.1; have q4 := hy.2; simp only at q1 q2 q3 q4 ⊢; split <;> rename_i hc <;> rw [Int64.lt_iff_toInt_lt] at hc <;> omega)
  · cases h
    obtain ⟨v, s0, rfl, g1, k1⟩ := ab_st_cons hs
    obtain ⟨u, s, rfl, g2, k2⟩ := ab_st_cons k1
    obtain ⟨y, rfl, hy⟩ := ab_f1 g1.1
    obtain ⟨x, rfl, hx⟩ := ab_f1 g2.1
    refine ⟨_, rfl, ⟨⟨rfl, ?_, ?_⟩, ab_o_none _ _ _ _⟩, k2⟩ <;> (have q1 := hx.1; have q2 := hx.2; have q3 := hy.1; have q4 := hy.2; simp only at q1 q2 q3 q4 ⊢; split <;> rename_i hc <;> rw [Int64.lt_iff_toInt_lt] at hc <;> omega)
  · cases h
end ab_s9
end
section
section ab_s10
variable {T : px_T} {P : List px_M} {xs : Nat → Int32}
/-- where a run comes to: an end, or a place at which it was stopped -/
def ab_Fin (T : px_T) (X : Option (Nat × (Nat → Int32))) (P : List px_M) (M : px_M) (xs : Nat → Int32) (pc : Nat) (lv : List (Nat × Value)) (st : List Value) (hp : px_H) (outs : List ab_O) (stops : List (Nat × ab_S)) : Prop :=
  (∃ (r : Option Value) (hp' : px_H) (o : ab_O), o ∈ outs ∧ ab_o' xs o r hp' ∧ ∃ n0 k : Nat, ∀ n, n0 ≤ n → ∀ N0 nc ns : Nat, nc ≤ (px_rm M).cells → ns ≤ (px_rm M).slots → px_run T X P (px_call T P ab_nn n) M N0 k (pc, lv, st, hp, nc, ns) = some (r, hp')) ∨
  (∃ (pc' : Nat) (lv' : List (Nat × Value)) (st' : List Value) (hp' : px_H) (A' : ab_S), (pc', A') ∈ stops ∧ ab_s xs A' lv' st' hp' ∧ ∃ n0 k : Nat, ∀ n, n0 ≤ n → ∀ N0 nc ns : Nat, nc ≤ (px_rm M).cells → ns ≤ (px_rm M).slots → px_its T X P (px_call T P ab_nn n) M N0 k (pc, lv, st, hp, nc, ns) = some (pc', lv', st', hp', nc, ns))
theorem ab_Fin_its {X : Option (Nat × (Nat → Int32))} {M : px_M} {pc pc1 : Nat} {lv lv1 : List (Nat × Value)} {st st1 : List Value} {hp hp1 : px_H} {outs outs1 : List ab_O} {stops stops1 : List (Nat × ab_S)}
    (h : ∃ n0 k : Nat, ∀ n, n0 ≤ n → ∀ N0 nc ns : Nat, nc ≤ (px_rm M).cells → ns ≤ (px_rm M).slots → px_its T X P (px_call T P ab_nn n) M N0 k (pc, lv, st, hp, nc, ns) = some (pc1, lv1, st1, hp1, nc, ns))
    (hF : ab_Fin T X P M xs pc1 lv1 st1 hp1 outs1 stops1) (ho : ∀ o ∈ outs1, o ∈ outs) (hs : ∀ q ∈ stops1, q ∈ stops) : ab_Fin T X P M xs pc lv st hp outs stops := by
  obtain ⟨n1, k1, h1⟩ := h
  rcases hF with ⟨r, hp', o, m1, m2, n0, k, h2⟩ | ⟨pc', lv', st', hp', A', m1, m2, n0, k, h2⟩
  · refine Or.inl ⟨r, hp', o, ho _ m1, m2, max n0 n1, k1 + k, fun n hn N0 nc ns q1 q2 => ?_⟩
    exact px_its_run k1 (h1 n (by omega) N0 nc ns q1 q2) (h2 n (by omega) N0 nc ns q1 q2)
  · refine Or.inr ⟨pc', lv', st', hp', A', hs _ m1, m2, max n0 n1, k1 + k, fun n hn N0 nc ns q1 q2 => ?_⟩
    exact px_its_add k1 (h1 n (by omega) N0 nc ns q1 q2) (h2 n (by omega) N0 nc ns q1 q2)
theorem ab_ret_ok {X : Option (Nat × (Nat → Int32))} {M : px_M} {pc len : Nat} {i : Instr} {A : ab_S} {o : ab_O} {lv : List (Nat × Value)} {st : List Value} {hp : px_H} (hf : px_find pc (px_cd M) = some (len, i)) (h : ab_ret M i A = some o) (hA : ab_s xs A lv st hp) :
    ∃ r : Option Value, ab_o' xs o r hp ∧ ∀ (call : Nat → List Value → px_H → Option px_A) (N0 nc ns : Nat), nc ≤ (px_rm M).cells → ns ≤ (px_rm M).slots → px_step T X P call M N0 (pc, lv, st, hp, nc, ns) = some (.inr (r, hp)) := by
  obtain ⟨h1, h2, h3, h4⟩ := hA
  unfold ab_ret at h
  split at h
  · rename_i a1 a2 r9 o9 hst hrt
    cases h
    rw [hst] at h2
    obtain ⟨v, s, rfl, g1, k1⟩ := ab_st_cons h2
    obtain ⟨x, rfl, hx⟩ := ab_f0 g1.1
    cases s with
    | cons => exact absurd k1 (by simp [ab_st])
    | nil => exact ⟨some (.int x), ⟨ab_kill_ok (fun l w q1 q2 => ab_isl_at l w q1 q2) g1, h3, h4⟩, fun call N0 nc ns q1 q2 => by simp only [px_step, hf, px_alu, hrt, decide_eq_true q1, decide_eq_true q2, px_zr]⟩
  · rename_i a1 a2 r9 o9 hst hrt
    split at h
    · rename_i hb
      cases h
      rw [hst] at h2
      obtain ⟨v, s, rfl, g1, k1⟩ := ab_st_cons h2
      obtain ⟨x, rfl, hx⟩ := ab_f0 g1.1
      have hz : (decide (x = 0) || decide (x = 1)) = true := by
        have b0 := hx.1
        have b1 := hx.2
        simp only at b0 b1
        simp only [Bool.or_eq_true, decide_eq_true_eq, ← Int32.toInt_inj]
        have z0 : (0 : Int32).toInt = 0 := rfl
        have z1 : (1 : Int32).toInt = 1 := rfl
        omega
      cases s with
      | cons => exact absurd k1 (by simp [ab_st])
      | nil => exact ⟨some (.int x), ⟨ab_kill_ok (fun l w q1 q2 => ab_isl_at l w q1 q2) g1, h3, h4⟩, fun call N0 nc ns q1 q2 => by simp only [px_step, hf, px_alu, hrt, decide_eq_true q1, decide_eq_true q2, px_zr, hz]⟩
    · cases h
  · rename_i x9 o9 hst hrt
    cases h
    rw [hst] at h2
    obtain ⟨v, s, rfl, g1, k1⟩ := ab_st_cons h2
    obtain ⟨z1, z2, z3⟩ := x9
    obtain ⟨x, rfl, hx⟩ := ab_f1 g1.1
    cases s with
    | cons => exact absurd k1 (by simp [ab_st])
    | nil => exact ⟨some (.long x), ⟨ab_kill_ok (fun l w q1 q2 => ab_isl_at l w q1 q2) g1, h3, h4⟩, fun call N0 nc ns q1 q2 => by simp only [px_step, hf, px_alu, hrt, decide_eq_true q1, decide_eq_true q2]⟩
  · rename_i hst hrt
    cases h
    rw [hst] at h2
    cases st with
    | cons => exact absurd h2 (by simp [ab_st])
    | nil => exact ⟨none, ⟨trivial, h3, h4⟩, fun call N0 nc ns q1 q2 => by simp only [px_step, hf, px_alu, hrt, decide_eq_true q1, decide_eq_true q2]⟩
  · cases h
/-- a callee that ends, as a call -/
theorem ab_call_ok {N : px_M} {mi : Nat} (hN : P[mi]? = some N) {av : List Value} {hp hp' : px_H} {r : Option Value} (hl : (lg_sl av).length ≤ px_ml N)
    (h : ∃ n0 k : Nat, ∀ n, n0 ≤ n → ∀ N0 nc ns : Nat, nc ≤ (px_rm N).cells → ns ≤ (px_rm N).slots → px_run T none P (px_call T P ab_nn n) N N0 k (0, lv_args 0 av, [], hp, nc, ns) = some (r, hp')) :
    ∃ n0 : Nat, ∀ n, n0 ≤ n → px_call T P ab_nn n mi av hp = some (r, hp') := by
  obtain ⟨n0, k, h⟩ := h
  refine ⟨max n0 k + 1, fun n hn => ?_⟩
  obtain ⟨m, rfl⟩ : ∃ m, n = m + 1 := ⟨n - 1, by omega⟩
  unfold px_call
  simp only [hN, decide_eq_true hl]
  have h1 := h m (by omega) hp.length 0 0 (Nat.zero_le _) (Nat.zero_le _)
  have h2 := px_run_mono k (m - k) h1
  rwa [show k + (m - k) = m by omega] at h2
theorem ab_back_ok {A : ab_S} {lv : List (Nat × Value)} {st : List Value} {hp hp' : px_H} {o : ab_O} {r : Option Value} (hA : ab_s xs A lv st hp) (ho : ab_o' xs o r hp') (k : Nat) : ab_s xs (ab_back A k o) lv (r.toList ++ st.drop k) hp' := by
  obtain ⟨h1, h2, h3, h4⟩ := hA
  obtain ⟨g1, g2, g3⟩ := ho
  have hP : ∀ l w, ab_isf l = false → ab_at xs lv hp l = some w → ab_at xs lv hp' l = some w := fun l w q1 q2 => ab_isf_at l w q1 q2
  refine ⟨fun j a hm => ?_, ?_, g2, g3⟩
  · obtain ⟨⟨j0, a0⟩, hm0, he⟩ := List.mem_map.mp hm
    cases he
    obtain ⟨v, hv, hav⟩ := h1 _ _ hm0
    exact ⟨v, hv, ab_kill_ok hP hav⟩
  · have hd := ab_kill_st hP (ab_st_drop k h2)
    obtain ⟨oa, oh, ox⟩ := o
    cases oa with
    | none => cases r with
      | none => exact hd
      | some v => exact absurd g1 (by simp)
    | some a => cases r with
      | none => exact absurd g1 (by simp)
      | some v => exact ⟨ab_v_mono (fun l w q => ab_nil_at l w q) g1, hd⟩
set_option maxHeartbeats 8000000 in
theorem ab_run_ok : ∀ (n : Nat) (L : Option Nat) (stop : List Nat) (M : px_M) (pc : Nat) (A : ab_S) (o : List ab_O × List (Nat × ab_S)) (X : Option (Nat × (Nat → Int32))) (lv : List (Nat × Value)) (st : List Value) (hp : px_H),
    ab_run T P n L stop M pc A = some o → ab_s xs A lv st hp → (∀ n, L = some n → X = some (n, xs)) → ab_Fin T X P M xs pc lv st hp o.1 o.2 := by
  intro n
  induction n with
  | zero => intro L stop M pc A o X lv st hp h; cases h
  | succ n ih =>
    intro L stop M pc A o X lv st hp h hA hX
    have hcallee : ∀ (k mi : Nat) (N : px_M) (couts : List ab_O), P[mi]? = some N → ab_callok N k A.2.1 = true → ab_run T P n none [] N 0 (ab_args 0 ((A.2.1.take k).reverse.map (ab_kill ab_isl)), [], A.2.2) = some (couts, []) →
        ∃ (r : Option Value) (hp' : px_H) (oc : ab_O), oc ∈ couts ∧ ab_s xs (ab_back A k oc) lv (r.toList ++ st.drop k) hp' ∧ k ≤ st.length ∧ ((st.drop k).map fun v => v.category).sum ≤ 8 ∧ (px_rm N).cells = 0 ∧ (px_rm N).slots = 0 ∧ ∃ n0 : Nat, ∀ n, n0 ≤ n → px_call T P ab_nn n mi (st.take k).reverse hp = some (r, hp') := by
      intro k mi N couts hN hok hrun
      simp only [ab_callok, Bool.and_eq_true, decide_eq_true_eq] at hok
      obtain ⟨c1, c2, c3, c4, c5⟩ := hok
      obtain ⟨h1, h2, h3, h4⟩ := id hA
      have hcat := ab_st_cat h2
      have hlen := ab_st_len h2
      have hargs := ab_kill_st (P := ab_isl) (lv' := lv_args 0 (st.take k).reverse) (fun l w q1 q2 => ab_isl_at l w q1 q2) (ab_st_rev (ab_st_take k h2))
      have hF := ih none [] N 0 _ _ none (lv_args 0 (st.take k).reverse) [] hp hrun ⟨fun j a hm => ab_args_ok 0 hargs j a hm, trivial, h3, h4⟩ (fun n hn => by cases hn)
      have hsl : (lg_sl (st.take k).reverse).length ≤ px_ml N := by
        rw [ab_lg', List.map_reverse, List.sum_reverse, List.map_take, ← hcat, ← List.map_take]
        exact c5
      rcases hF with ⟨r, hp', oc, m1, m2, hr⟩ | ⟨pc', lv', st', hp', A', m1, -⟩
      · exact ⟨r, hp', oc, m1, ab_back_ok hA m2 k, by rw [← hlen]; exact c1, by rw [List.map_drop, ← hcat, ← List.map_drop]; exact c2, c3, c4, ab_call_ok hN hsl hr⟩
      · cases m1
    unfold ab_run at h
    split at h
    · cases h
      exact Or.inr ⟨pc, lv, st, hp, A, List.mem_singleton.mpr rfl, hA, 0, 0, fun _ _ _ _ _ _ _ => rfl⟩
    split at h
    · cases h
    rename_i len i hf
    split at h
    · rename_i o9 hr
      cases h
      obtain ⟨r, g1, g2⟩ := ab_ret_ok (X := X) (T := T) (P := P) hf hr hA
      exact Or.inl ⟨r, hp, o9, List.mem_singleton.mpr rfl, g1, 0, 1, fun n hn N0 nc ns q1 q2 => by simp only [px_run, g2 _ _ _ _ q1 q2]⟩
    rename_i hr
    simp only at h
    split at h
    · -- invokevirtual
      rename_i idx
      split at h
      · rename_i mi na ci hj
        split at h
        · rename_i c1 c2 c o9 hna
          split at h
          · rename_i ci' fs hc
            split at h
            · rename_i hci
              split at h
              · cases h
              · rename_i N hN
                split at h
                · cases h
                · rename_i hok
                  split at h
                  · rename_i couts hrun
                    obtain ⟨r, hp', oc, m1, m2, d1, d2, d3, d4, n0, hcl⟩ := hcallee _ _ _ _ hN hok hrun
                    obtain ⟨x, e1, e2, e3⟩ := ab_all_ok h oc m1
                    obtain ⟨vs, hx, -, -⟩ := ab_obj hA.2.2.1 hc
                    have hlt : na < st.length := by omega
                    have hst : st[na]? = some (.ref c) := by
                      have hd := ab_st_drop na hA.2.1
                      have hnl : na < A.2.1.length := by rw [ab_st_len hA.2.1]; exact hlt
                      rw [List.drop_eq_getElem_cons hnl, List.drop_eq_getElem_cons hlt] at hd
                      have he : A.2.1[na] = ((2, c1, c2, [c]), o9) := by
                        have := List.getElem?_eq_getElem hnl
                        rw [hna] at this
                        exact (Option.some.inj this).symm
                      rw [he] at hd
                      rw [List.getElem?_eq_getElem hlt, ab_ref1 hd.1]
                    refine ab_Fin_its ⟨n0, 1, fun n hn N0 nc ns q1 q2 => ?_⟩ (ih L stop M (pc + 3) _ _ X lv _ hp' e1 m2 hX) e2 e3
                    simp only [px_its, px_step, hf, px_alu, hj, hst, hx, hci, hN, decide_eq_true d1, decide_eq_true d2, d3, d4, Nat.add_zero, decide_eq_true q1, decide_eq_true q2, true_or, decide_true, hcl n hn]
                  · cases h
            · cases h
          · cases h
        · cases h
      · cases h
    · -- invokestatic
      rename_i idx
      split at h
      · rename_i mi na z9 hj
        split at h
        · cases h
        · rename_i N hN
          split at h
          · cases h
          · rename_i hok
            split at h
            · rename_i couts hrun
              obtain ⟨r, hp', oc, m1, m2, d1, d2, d3, d4, n0, hcl⟩ := hcallee _ _ _ _ hN hok hrun
              obtain ⟨x, e1, e2, e3⟩ := ab_all_ok h oc m1
              refine ab_Fin_its ⟨n0, 1, fun n hn N0 nc ns q1 q2 => ?_⟩ (ih L stop M (pc + 3) _ _ X lv _ hp' e1 m2 hX) e2 e3
              simp only [px_its, px_step, hf, px_alu, hj, hN, decide_eq_true d1, decide_eq_true d2, d3, d4, Nat.add_zero, decide_eq_true q1, decide_eq_true q2, true_or, decide_true, hcl n hn]
            · cases h
      · rename_i w z1 z2 hj
        split at h
        · rename_i st' hm hd
          obtain ⟨st'', g1, g2⟩ := ab_math_ok hm hA.2.1
          have hd2 : decide (((st.drop 2).map fun v => v.category).sum ≤ 8) = true := by
            rw [List.map_drop, ← ab_st_cat hA.2.1, ← List.map_drop]
            exact hd
          refine ab_Fin_its ⟨0, 1, fun n hn N0 nc ns q1 q2 => ?_⟩ (ih L stop M (pc + 3) _ _ X lv st'' hp h ⟨hA.1, g2, hA.2.2.1, hA.2.2.2⟩ hX) (fun _ h => h) (fun _ h => h)
          simp only [px_its, px_step, hf, px_alu, hj, g1, hd2, decide_eq_true q1, decide_eq_true q2]
        · cases h
      · cases h
    · -- a step
      split at h
      · cases h
      · rename_i outs hs
        obtain ⟨pc1, lv1, st1, hp1, A1, m1, m2, k, hk⟩ := ab_step_ok (P := P) hA hX hs
        obtain ⟨x, e1, e2, e3⟩ := ab_all_ok h _ m1
        exact ab_Fin_its ⟨0, k, fun n hn N0 nc ns q1 q2 => hk _ _ _ _⟩ (ih L stop M pc1 A1 _ X lv1 st1 hp1 e1 m2 hX) e2 e3
end ab_s10
end
section
abbrev ab_D : Type := (Nat × List Value) ⊕ (Nat × Nat) ⊕ (Nat × Nat) ⊕ (Nat × List Nat)
def ab_rfn : Nat → List Nat → (Nat → Option Nat) → Nat → Option Nat
  | _, [], g => g
  | i, a :: r, g => ab_rfn (i + 1) r (va_up g i (some a))
def ab_toC : ab_D → px_E
  | .inl q => .inr q
  | .inr (.inl q) => .inl (q.1, q.2, .inl (fun _ => 0))
  | .inr (.inr (.inl q)) => .inl (q.1, q.2, .inr (.inl (fun _ => 0)))
  | .inr (.inr (.inr q)) => .inl (q.1, q.2.length, .inr (.inr (.inr (.inr (ab_rfn 0 q.2 (fun _ => none))))))
def ab_fx : Value → ab_F
  | .int x => (0, x.toInt, x.toInt, [])
  | .long x => (1, x.toInt, x.toInt, [])
  | .ref k => (2, 0, 0, [k])
  | _ => (9, 0, 0, [])
def ab_fv : Value → Bool
  | .int _ => true
  | .long _ => true
  | .ref _ => true
  | _ => false
def ab_toA : ab_D → ab_C
  | .inl q => .inl (q.1, q.2.map ab_fx)
  | .inr (.inl q) => .inr (q.1, q.2, (0, 0, 0, []))
  | .inr (.inr (.inl q)) => .inr (q.1, q.2, (1, 0, 0, []))
  | .inr (.inr (.inr q)) => .inr (q.1, q.2.length, (2, 0, 0, q.2))
def ab_Dok : ab_D → Bool
  | .inl q => q.2.all ab_fv
  | _ => true
def nm_D : List ab_D := [.inl (8, [.ref 1, .ref 12, .ref 14, .ref 18, .int (0), .ref 19, .ref 20, .ref 21, .ref 28, .ref 48, .ref 50, .int (1), .ref 51, .ref 52, .int (0), .ref 53, .int (0)]), .inl (6, [.int (0), .ref 2, .ref 3, .ref 4, .ref 5, .ref 6, .ref 7, .ref 8, .int (0), .ref 9, .ref 10, .ref 11]), .inr (.inl (12, 10)), .inr (.inl (13, 10)), .inr (.inl (14, 10)), .inr (.inl (15, 10)), .inr (.inl (16, 10)), .inr (.inl (17, 2)), .inr (.inl (18, 2)), .inr (.inl (19, 6)), .inr (.inl (20, 6)), .inr (.inl (21, 6)), .inl (5, [.ref 13, .int (0)]), .inr (.inl (11, 40)), .inl (3, [.ref 15, .ref 16, .ref 17, .int (0)]), .inr (.inl (0, 7)), .inr (.inl (1, 7)), .inr (.inl (2, 7)), .inr (.inr (.inr (22, [54, 58, 62]))), .inl (0, [.long (0), .int (0), .int (0)]), .inl (0, [.long (0), .int (0), .int (0)]), .inl (1, [.ref 1, .ref 22, .ref 26, .int (0), .int (0), .int (0), .int (0), .int (0), .int (0), .int (0), .ref 27, .int (0), .int (0), .int (0)]), .inl (3, [.ref 23, .ref 24, .ref 25, .int (0)]), .inr (.inl (0, 7)), .inr (.inl (1, 7)), .inr (.inl (2, 7)), .inr (.inl (3, 2)), .inr (.inl (4, 10)), .inl (7, [.ref 29, .ref 35, .ref 41, .ref 47, .long (0), .long (0)]), .inl (4, [.ref 30, .ref 31, .ref 32, .int (0), .ref 33, .ref 34]), .inr (.inr (.inl (6, 3000))), .inr (.inl (7, 3000)), .inr (.inr (.inl (8, 3000))), .inr (.inl (9, 4096)), .inr (.inl (10, 3000)), .inl (4, [.ref 36, .ref 37, .ref 38, .int (0), .ref 39, .ref 40]), .inr (.inr (.inl (6, 3000))), .inr (.inl (7, 3000)), .inr (.inr (.inl (8, 3000))), .inr (.inl (9, 4096)), .inr (.inl (10, 3000)), .inl (4, [.ref 42, .ref 43, .ref 44, .int (0), .ref 45, .ref 46]), .inr (.inr (.inl (6, 3000))), .inr (.inl (7, 3000)), .inr (.inr (.inl (8, 3000))), .inr (.inl (9, 4096)), .inr (.inl (10, 3000)), .inl (0, [.long (0), .int (0), .int (0)]), .inl (2, [.ref 49, .int (0)]), .inr (.inr (.inl (5, 13))), .inr (.inl (23, 10)), .inr (.inr (.inr (24, [66, 67, 68]))), .inr (.inl (25, 3)), .inr (.inl (26, 6)), .inl (3, [.ref 55, .ref 56, .ref 57, .int (0)]), .inr (.inl (0, 7)), .inr (.inl (1, 7)), .inr (.inl (2, 7)), .inl (3, [.ref 59, .ref 60, .ref 61, .int (0)]), .inr (.inl (0, 7)), .inr (.inl (1, 7)), .inr (.inl (2, 7)), .inl (3, [.ref 63, .ref 64, .ref 65, .int (0)]), .inr (.inl (0, 7)), .inr (.inl (1, 7)), .inr (.inl (2, 7)), .inl (0, [.long (0), .int (0), .int (0)]), .inl (0, [.long (0), .int (0), .int (0)]), .inl (0, [.long (0), .int (0), .int (0)]), .inl (9, [.int (0), .int (0), .ref 70, .int (0), .ref 71, .ref 72, .ref 73, .ref 74, .ref 75, .ref 76, .ref 77, .int (0), .ref 78, .ref 79, .ref 80, .int (0), .ref 81, .ref 82, .ref 83, .ref 84, .int (0), .ref 85, .int (0), .int (0), .int (0), .ref 86, .ref 87, .int (0), .ref 88, .ref 89, .ref 90, .int (0), .int (0), .int (0), .long (0), .long (0), .int (0), .int (1), .ref 91, .ref 92, .ref 93, .ref 94, .ref 95, .ref 96, .ref 97, .long (0), .long (0), .ref 98, .int (0), .int (0), .ref 99, .ref 100, .ref 101, .ref 102, .ref 103, .ref 104]), .inr (.inr (.inl (27, 64))), .inr (.inl (28, 10)), .inr (.inl (29, 10)), .inr (.inl (30, 10)), .inr (.inl (31, 10)), .inr (.inl (32, 10)), .inr (.inl (33, 2)), .inr (.inl (34, 2)), .inr (.inl (35, 6)), .inr (.inl (36, 6)), .inr (.inl (37, 6)), .inr (.inl (38, 4)), .inr (.inl (39, 4)), .inr (.inl (40, 28)), .inr (.inl (41, 28)), .inr (.inl (42, 40)), .inr (.inl (43, 8)), .inr (.inl (44, 8)), .inr (.inl (45, 2)), .inr (.inl (46, 2)), .inr (.inl (47, 10)), .inr (.inl (48, 3)), .inr (.inl (49, 10)), .inr (.inr (.inl (50, 9003))), .inr (.inr (.inl (51, 9003))), .inr (.inr (.inl (52, 9003))), .inr (.inl (53, 3)), .inr (.inl (54, 24576)), .inr (.inl (55, 3001)), .inr (.inl (56, 6)), .inr (.inl (57, 3)), .inr (.inr (.inl (58, 3))), .inr (.inr (.inl (59, 3))), .inr (.inl (60, 3)), .inr (.inl (61, 3)), .inr (.inr (.inl (62, 1)))]
def nm_dn : Nat × Nat := (106, 103614)
def nm_lv : List (Nat × Value) := [(4, .int 0), (3, .ref 105), (2, .ref 69), (1, .ref 0), (0, .retAddr 0)]
def nm_dk : Nat := 13
def nm_pcs : List Nat := [228, 253, 290, 339, 376, 437, 474, 527, 576, 601, 626, 639, 664, 689, 702, 771, 840, 853, 890, 915, 952, 977, 1002, 1027, 1052, 1089, 1114, 1151, 1188, 1201, 1274, 1335, 1396, 1433, 1470, 1495, 1508, 1545, 1558, 1583, 1608, 1633, 1658]
end
section
theorem ab_rfn_lt : ∀ (rs : List Nat) (i : Nat) (g : Nat → Option Nat) (j : Nat), j < i → ab_rfn i rs g j = g j := by
  intro rs
  induction rs with
  | nil => intro i g j h; rfl
  | cons a r ih =>
    intro i g j h
    unfold ab_rfn
    rw [ih (i + 1) _ j (by omega)]
    unfold va_up
    rw [if_neg (by omega)]
theorem ab_rfn_in : ∀ (rs : List Nat) (i : Nat) (g : Nat → Option Nat) (j : Nat), i ≤ j → j < i + rs.length → ∃ q, ab_rfn i rs g j = some q ∧ q ∈ rs := by
  intro rs
  induction rs with
  | nil => intro i g j h1 h2; simp at h2; omega
  | cons a r ih =>
    intro i g j h1 h2
    unfold ab_rfn
    by_cases hj : j = i
    · subst hj
      rw [ab_rfn_lt r (j + 1) _ j (by omega)]
      unfold va_up
      rw [if_pos rfl]
      exact ⟨a, rfl, List.mem_cons_self⟩
    · obtain ⟨q, e1, e2⟩ := ih (i + 1) (va_up g i (some a)) j (by omega) (by simp at h2; omega)
      exact ⟨q, e1, List.mem_cons_of_mem _ e2⟩
theorem ab_fx_ok (v : Value) (h : ab_fv v = true) : ab_f (ab_fx v) v := by
  cases v <;> first | exact ⟨rfl, Int.le_refl _, Int.le_refl _⟩ | exact ⟨rfl, List.mem_singleton.mpr rfl⟩ | cases h
theorem ab_D_c (d : ab_D) (h : ab_Dok d = true) : ab_c (ab_toA d) (ab_toC d) := by
  rcases d with ⟨ci, vs⟩ | ⟨t, n⟩ | ⟨t, n⟩ | ⟨t, rs⟩
  · refine ⟨rfl, by rw [List.length_map], fun k f v hf hv => ?_⟩
    rw [List.getElem?_map, hv] at hf
    cases hf
    exact ab_fx_ok v (List.all_eq_true.mp h v (List.mem_of_getElem? hv))
  · exact ⟨rfl, rfl, fun j hj => ⟨rfl, Int.le_refl _, Int.le_refl _⟩⟩
  · exact ⟨rfl, rfl, fun j hj => ⟨rfl, Int.le_refl _, Int.le_refl _⟩⟩
  · refine ⟨rfl, rfl, fun j hj => ?_⟩
    obtain ⟨q, e1, e2⟩ := ab_rfn_in rs 0 (fun _ => none) j (Nat.zero_le _) (by simpa using hj)
    exact ⟨q, e1, rfl, e2⟩
theorem ab_D_h (D : List ab_D) (h : D.all ab_Dok = true) : ab_h (D.map ab_toA) (D.map ab_toC) := by
  refine ⟨by rw [List.length_map, List.length_map], fun k a x ha hx => ?_⟩
  rw [List.getElem?_map] at ha hx
  rcases hd : D[k]? with _ | d
  · rw [hd] at ha; cases ha
  · rw [hd] at ha hx
    cases ha
    cases hx
    exact ab_D_c d (List.all_eq_true.mp h d (List.mem_of_getElem? hd))
theorem nm_D_ok : nm_D.all ab_Dok = true := by decide +kernel
abbrev nm_H1 : px_H := nm_D.map ab_toC
abbrev nm_A1 : List ab_C := nm_D.map ab_toA
set_option maxRecDepth 1000000 in
set_option maxHeartbeats 40000000 in
theorem nm_c0 (X : Option (Nat × (Nat → Int32))) : nm_steps X 400 13 (0, [(0, .retAddr 0)], [], [], 0, 0) = some (23, nm_lv, [], nm_H1, 106, 103614) := by rfl
end
section
/-! p1: one call on the fresh object -/
theorem px_step_inr {T : px_T} {X : Option (Nat × (Nat → Int32))} {P : List px_M} {call : Nat → List Value → px_H → Option px_A} {M : px_M} {N0 pc nc ns : Nat} {lv : List (Nat × Value)} {st : List Value} {hp hp' : px_H} {v : Int32}
    (hs : px_step T X P call M N0 (pc, lv, st, hp, nc, ns) = some (.inr (some (.int v), hp'))) : st = [.int v] ∧ (∃ len, px_find pc (px_cd M) = some (len, .ireturn)) ∧ nc ≤ (px_rm M).cells ∧ ns ≤ (px_rm M).slots := by
  simp only [px_step] at hs
  split at hs
  · cases hs
  rename_i len i hf
  split at hs
  · cases hs
  rename_i ha
  cases i
  case ireturn =>
    simp only at hs
    split at hs
    · rename_i v9 ty h1 h2 h3
      split at hs
      · cases hs
        exact ⟨rfl, ⟨len, hf⟩, of_decide_eq_true h2, of_decide_eq_true h3⟩
      · cases hs
    · cases hs
  case lreturn =>
    simp only at hs
    split at hs <;> cases hs
  case return_ =>
    simp only at hs
    split at hs <;> cases hs
  all_goals
    exfalso
    revert hs
    try simp only []
    repeat' split
    all_goals first | (intro h; cases h; done) | (simp; done) | (intro h; simp only [Option.map_eq_some_iff] at h; obtain ⟨_, _, h⟩ := h; cases h; done)
theorem nm_its (X : Option (Nat × (Nat → Int32))) (n : Nat) : ∀ (k : Nat) (S : px_S), px_its nm_T X nm_P (nm_call n) nm_law 0 k S = nm_steps X n k S := by
  intro k
  induction k with
  | zero => intro S; rfl
  | succ k ih =>
    intro S
    unfold px_its nm_steps
    rcases px_step nm_T X nm_P (nm_call n) nm_law 0 S with _ | (S' | r)
    · rfl
    · exact ih S'
    · rfl
section nm_s2
variable {p : Program} {l : Launch} {e : Env} {s : State} {m : MethodId} {below : List Frame} {meth : Method} {c : Code} {b L : Nat} {xs : Nat → Int32} {D : va_G} {dA : Nat → ClassId}
theorem nm_G_run (C0 : lw_At p s m meth c b L xs) (hK : va_K D nm_cl (px_tys nm_T dA) s) (n : Nat) : ∀ (k : Nat) (S : px_S) (hp' : px_H), px_run nm_T (some (L, xs)) nm_P (nm_call n) nm_law 0 k S = some (some (.int 1), hp') → nm_G p l e s m below meth c b D dA S := by
  intro k
  induction k with
  | zero => intro S hp' h; cases h
  | succ k ih =>
    intro S hp' h
    unfold px_run at h
    split at h
    · cases h
    · rename_i S' hs
      exact nm_G_step C0 hK n hs (ih S' hp' h)
    · rename_i r hs
      cases h
      obtain ⟨pc, lv, st, hp, nc, ns⟩ := S
      obtain ⟨rfl, ⟨len, hf⟩, h1, h2⟩ := px_step_inr hs
      have hI := List.all_eq_true.mp nm_okC_law _ (px_find_mem hf)
      simp only [Bool.and_eq_true, decide_eq_true_eq] at hI
      obtain ⟨hd, hoi⟩ := hI
      have hlen : len = 1 := of_decide_eq_true hoi
      subst hlen
      exact nm_G_ret C0 hd h1 h2
/-- a run of the abstract interpreter, all of whose ends are 1 -/
theorem nm_G_ab (C0 : lw_At p s m meth c b L xs) (hK : va_K D nm_cl (px_tys nm_T dA) s) {fuel : Nat} {stop : List Nat} {pc : Nat} {A : ab_S} {o : List ab_O × List (Nat × ab_S)} {lv : List (Nat × Value)} {st : List Value} {hp : px_H} {nc ns : Nat}
    (hrun : ab_run nm_T nm_P fuel (some L) stop nm_law pc A = some o) (hA : ab_s xs A lv st hp) (hnc : nc ≤ 600002) (hns : ns ≤ 7302232)
    (hone : ∀ q ∈ o.1, q.1.map (fun a => a.1) = some (0, 1, 1, []))
    (hstop : ∀ (pc' : Nat) (A' : ab_S) (lv' : List (Nat × Value)) (st' : List Value) (hp' : px_H), (pc', A') ∈ o.2 → ab_s xs A' lv' st' hp' → nm_G p l e s m below meth c b D dA (pc', lv', st', hp', nc, ns)) : nm_G p l e s m below meth c b D dA (pc, lv, st, hp, nc, ns) := by
  rcases ab_run_ok fuel (some L) stop nm_law pc A o (some (L, xs)) lv st hp hrun hA (fun n hn => by cases hn; rfl) with ⟨r, hp', oc, m1, m2, n0, k, h⟩ | ⟨pc', lv', st', hp', A', m1, m2, n0, k, h⟩
  · have h1 := hone _ m1
    obtain ⟨oa, oh, ox⟩ := oc
    cases oa with
    | none => cases h1
    | some a =>
      cases r with
      | none => exact absurd m2.1 (by simp)
      | some v =>
        have h2 : a.1 = (0, 1, 1, []) := Option.some.inj h1
        have h3 := m2.1.1
        rw [h2] at h3
        obtain ⟨x, rfl, hx⟩ := ab_f0 h3
        have hx1 : x = 1 := by
          rw [← Int32.toInt_inj]
          have b0 := hx.1
          have b1 := hx.2
          have z1 : (1 : Int32).toInt = 1 := rfl
          simp only at b0 b1
          omega
        subst hx1
        exact nm_G_run C0 hK n0 k _ hp' (h n0 (Nat.le_refl _) 0 nc ns hnc hns)
  · refine nm_G_steps C0 hK n0 k _ _ ?_ (hstop pc' A' lv' st' hp' m1 m2)
    rw [← nm_its]
    exact h n0 (Nat.le_refl _) 0 nc ns hnc hns
end nm_s2
def nm_al : List (Nat × ab_V) := [(4, ((0, 0, 0, []), none)), (3, ((2, 0, 0, [105]), none)), (2, ((2, 0, 0, [69]), none)), (1, ((2, 0, 0, [0]), none)), (0, ((3, 0, 0, []), none))]
def nm_A0 : ab_S := (nm_al, [], nm_A1, List.replicate 6 ab_topi)
theorem nm_A0_ok (xs : Nat → Int32) : ab_s xs nm_A0 nm_lv [] nm_H1 := by
  refine ⟨fun j a hm => ?_, trivial, ab_D_h nm_D nm_D_ok, fun j q hq => ?_⟩
  · simp only [nm_A0, nm_al, List.mem_cons, Prod.mk.injEq, List.not_mem_nil, or_false] at hm
    rcases hm with ⟨rfl, rfl⟩ | ⟨rfl, rfl⟩ | ⟨rfl, rfl⟩ | ⟨rfl, rfl⟩ | ⟨rfl, rfl⟩
    · exact ⟨.int 0, rfl, ⟨rfl, Int.le_refl _, Int.le_refl _⟩, ab_o_none _ _ _ _⟩
    · exact ⟨.ref 105, rfl, ⟨rfl, List.mem_singleton.mpr rfl⟩, ab_o_none _ _ _ _⟩
    · exact ⟨.ref 69, rfl, ⟨rfl, List.mem_singleton.mpr rfl⟩, ab_o_none _ _ _ _⟩
    · exact ⟨.ref 0, rfl, ⟨rfl, List.mem_singleton.mpr rfl⟩, ab_o_none _ _ _ _⟩
    · exact ⟨.retAddr 0, rfl, rfl, ab_o_none _ _ _ _⟩
  · have := List.mem_of_getElem? hq
    rw [(List.mem_replicate.mp this).2]
    exact ab_i32 _
def ab_eqL : List (Nat × ab_V) → List (Nat × ab_V) → Bool
  | [], [] => true
  | p :: r, q :: s => (Nat.beq p.1 q.1 && (decide (p.2.1 = q.2.1) && decide (p.2.2 = q.2.2))) && ab_eqL r s
  | _, _ => false
theorem ab_eqL_ok : ∀ {a b : List (Nat × ab_V)}, ab_eqL a b = true → a = b := by
  intro a
  induction a with
  | nil => intro b h; cases b <;> first | rfl | cases h
  | cons p r ih =>
    intro b h
    cases b with
    | nil => cases h
    | cons q s =>
      simp only [ab_eqL, Bool.and_eq_true, decide_eq_true_eq] at h
      obtain ⟨⟨h1, h2, h3⟩, h4⟩ := h
      rw [ih h4, Prod.ext (Nat.eq_of_beq_eq_true h1) (Prod.ext h2 h3)]
def ab_eqC : List ab_C → List ab_C → Bool
  | [], [] => true
  | .inl x :: r, .inl y :: s => (Nat.beq x.1 y.1 && decide (x.2 = y.2)) && ab_eqC r s
  | .inr x :: r, .inr y :: s => (Nat.beq x.1 y.1 && (Nat.beq x.2.1 y.2.1 && decide (x.2.2 = y.2.2))) && ab_eqC r s
  | _, _ => false
theorem ab_eqC_ok : ∀ {a b : List ab_C}, ab_eqC a b = true → a = b := by
  intro a
  induction a with
  | nil => intro b h; cases b <;> first | rfl | (unfold ab_eqC at h; cases h)
  | cons p r ih =>
    intro b h
    cases b with
    | nil => cases p <;> (unfold ab_eqC at h; cases h)
    | cons q s =>
      cases p with
      | inl x => cases q with
        | inl y =>
          simp only [ab_eqC, Bool.and_eq_true, decide_eq_true_eq] at h
          rw [ih h.2, Prod.ext (Nat.eq_of_beq_eq_true h.1.1) h.1.2]
        | inr y => unfold ab_eqC at h; cases h
      | inr x => cases q with
        | inl y => unfold ab_eqC at h; cases h
        | inr y =>
          simp only [ab_eqC, Bool.and_eq_true, decide_eq_true_eq] at h
          rw [ih h.2, Prod.ext (Nat.eq_of_beq_eq_true h.1.1) (Prod.ext (Nat.eq_of_beq_eq_true h.1.2.1) h.1.2.2)]
/-- of a run: all ends are 1, all stops are at these places in the first state -/
def nm_chk (fuel : Nat) (L : Nat) (stop : List Nat) (pc : Nat) : Bool :=
  match ab_run nm_T nm_P fuel (some L) stop nm_law pc nm_A0 with
  | none => false
  | some o => o.1.all (fun q => decide (q.1.map (fun a => a.1) = some (0, 1, 1, []))) && o.2.all (fun q => stop.contains q.1 && (ab_eqL q.2.1 nm_A0.1 && (decide (q.2.2.1 = nm_A0.2.1) && (ab_eqC q.2.2.2.1 nm_A0.2.2.1 && decide (q.2.2.2.2 = nm_A0.2.2.2)))))
theorem nm_chk_ok {fuel L pc : Nat} {stop : List Nat} (h : nm_chk fuel L stop pc = true) : ∃ o, ab_run nm_T nm_P fuel (some L) stop nm_law pc nm_A0 = some o ∧ (∀ q ∈ o.1, q.1.map (fun a => a.1) = some (0, 1, 1, [])) ∧ ∀ q ∈ o.2, q.1 ∈ stop ∧ q.2 = nm_A0 := by
  unfold nm_chk at h
  split at h
  · cases h
  · rename_i o ho
    simp only [Bool.and_eq_true, List.all_eq_true, decide_eq_true_eq, List.contains_iff_mem] at h
    refine ⟨o, ho, h.1, fun q hq => ?_⟩
    obtain ⟨g1, g2, g3, g4, g5⟩ := h.2 q hq
    exact ⟨g1, Prod.ext (ab_eqL_ok g2) (Prod.ext g3 (Prod.ext (ab_eqC_ok g4) g5))⟩
section nm_s3
variable {p : Program} {l : Launch} {e : Env} {s : State} {m : MethodId} {below : List Frame} {meth : Method} {c : Code} {b L : Nat} {xs : Nat → Int32} {D : va_G} {dA : Nat → ClassId}
theorem nm_G_chk (C0 : lw_At p s m meth c b L xs) (hK : va_K D nm_cl (px_tys nm_T dA) s) {fuel pc : Nat} {stop : List Nat} (h : nm_chk fuel L stop pc = true) {lv : List (Nat × Value)} {st : List Value} {hp : px_H} (hA : ab_s xs nm_A0 lv st hp)
    (hstop : ∀ (pc' : Nat) (lv' : List (Nat × Value)) (st' : List Value) (hp' : px_H), pc' ∈ stop → ab_s xs nm_A0 lv' st' hp' → nm_G p l e s m below meth c b D dA (pc', lv', st', hp', 106, 103614)) : nm_G p l e s m below meth c b D dA (pc, lv, st, hp, 106, 103614) := by
  obtain ⟨o, h1, h2, h3⟩ := nm_chk_ok h
  refine nm_G_ab C0 hK h1 hA (by decide) (by decide) h2 (fun pc' A' lv' st' hp' hm hA' => ?_)
  obtain ⟨e1, e2⟩ := h3 _ hm
  simp only at e1 e2
  subst e2
  exact hstop pc' lv' st' hp' e1 hA'
end nm_s3
end
section
set_option maxRecDepth 1000000 in
theorem nm_ckm : nm_chk 300 6 nm_pcs 23 = true := by decide +kernel
set_option maxRecDepth 1000000 in
theorem nm_ckL0 : nm_chk 300 0 [] 23 = true := by decide +kernel
set_option maxRecDepth 1000000 in
theorem nm_ckL1 : nm_chk 300 1 [] 23 = true := by decide +kernel
set_option maxRecDepth 1000000 in
theorem nm_ckL2 : nm_chk 300 2 [] 23 = true := by decide +kernel
set_option maxRecDepth 1000000 in
theorem nm_ckL3 : nm_chk 300 3 [] 23 = true := by decide +kernel
set_option maxRecDepth 1000000 in
theorem nm_ckL4 : nm_chk 300 4 [] 23 = true := by decide +kernel
set_option maxRecDepth 1000000 in
theorem nm_ckL5 : nm_chk 300 5 [] 23 = true := by decide +kernel
set_option maxRecDepth 1000000 in
theorem nm_ck0 : nm_chk 3000 6 [] 228 = true := by decide +kernel
set_option maxRecDepth 1000000 in
theorem nm_ck1 : nm_chk 3000 6 [] 253 = true := by decide +kernel
set_option maxRecDepth 1000000 in
theorem nm_ck2 : nm_chk 3000 6 [] 290 = true := by decide +kernel
set_option maxRecDepth 1000000 in
theorem nm_ck3 : nm_chk 3000 6 [] 339 = true := by decide +kernel
set_option maxRecDepth 1000000 in
theorem nm_ck4 : nm_chk 3000 6 [] 376 = true := by decide +kernel
set_option maxRecDepth 1000000 in
theorem nm_ck5 : nm_chk 3000 6 [] 437 = true := by decide +kernel
set_option maxRecDepth 1000000 in
theorem nm_ck6 : nm_chk 3000 6 [] 474 = true := by decide +kernel
set_option maxRecDepth 1000000 in
theorem nm_ck7 : nm_chk 3000 6 [] 527 = true := by decide +kernel
set_option maxRecDepth 1000000 in
theorem nm_ck8 : nm_chk 3000 6 [] 576 = true := by decide +kernel
set_option maxRecDepth 1000000 in
theorem nm_ck9 : nm_chk 3000 6 [] 601 = true := by decide +kernel
set_option maxRecDepth 1000000 in
theorem nm_ck10 : nm_chk 3000 6 [] 626 = true := by decide +kernel
set_option maxRecDepth 1000000 in
theorem nm_ck11 : nm_chk 3000 6 [] 639 = true := by decide +kernel
set_option maxRecDepth 1000000 in
theorem nm_ck12 : nm_chk 3000 6 [] 664 = true := by decide +kernel
set_option maxRecDepth 1000000 in
theorem nm_ck13 : nm_chk 3000 6 [] 689 = true := by decide +kernel
set_option maxRecDepth 1000000 in
theorem nm_ck14 : nm_chk 3000 6 [] 702 = true := by decide +kernel
set_option maxRecDepth 1000000 in
theorem nm_ck15 : nm_chk 3000 6 [] 771 = true := by decide +kernel
set_option maxRecDepth 1000000 in
theorem nm_ck16 : nm_chk 3000 6 [] 840 = true := by decide +kernel
set_option maxRecDepth 1000000 in
theorem nm_ck17 : nm_chk 3000 6 [] 853 = true := by decide +kernel
set_option maxRecDepth 1000000 in
theorem nm_ck18 : nm_chk 3000 6 [] 890 = true := by decide +kernel
set_option maxRecDepth 1000000 in
theorem nm_ck19 : nm_chk 3000 6 [] 915 = true := by decide +kernel
set_option maxRecDepth 1000000 in
theorem nm_ck20 : nm_chk 3000 6 [] 952 = true := by decide +kernel
set_option maxRecDepth 1000000 in
theorem nm_ck21 : nm_chk 3000 6 [] 977 = true := by decide +kernel
set_option maxRecDepth 1000000 in
theorem nm_ck22 : nm_chk 3000 6 [] 1002 = true := by decide +kernel
set_option maxRecDepth 1000000 in
theorem nm_ck23 : nm_chk 3000 6 [] 1027 = true := by decide +kernel
set_option maxRecDepth 1000000 in
theorem nm_ck24 : nm_chk 3000 6 [] 1052 = true := by decide +kernel
set_option maxRecDepth 1000000 in
theorem nm_ck25 : nm_chk 3000 6 [] 1089 = true := by decide +kernel
set_option maxRecDepth 1000000 in
theorem nm_ck26 : nm_chk 3000 6 [] 1114 = true := by decide +kernel
set_option maxRecDepth 1000000 in
theorem nm_ck27 : nm_chk 3000 6 [] 1151 = true := by decide +kernel
set_option maxRecDepth 1000000 in
theorem nm_ck28 : nm_chk 3000 6 [] 1188 = true := by decide +kernel
set_option maxRecDepth 1000000 in
theorem nm_ck29 : nm_chk 3000 6 [] 1201 = true := by decide +kernel
set_option maxRecDepth 1000000 in
theorem nm_ck30 : nm_chk 3000 6 [] 1274 = true := by decide +kernel
set_option maxRecDepth 1000000 in
theorem nm_ck31 : nm_chk 3000 6 [] 1335 = true := by decide +kernel
set_option maxRecDepth 1000000 in
theorem nm_ck32 : nm_chk 3000 6 [] 1396 = true := by decide +kernel
set_option maxRecDepth 1000000 in
theorem nm_ck33 : nm_chk 3000 6 [] 1433 = true := by decide +kernel
set_option maxRecDepth 1000000 in
theorem nm_ck34 : nm_chk 3000 6 [] 1470 = true := by decide +kernel
set_option maxRecDepth 1000000 in
theorem nm_ck35 : nm_chk 3000 6 [] 1495 = true := by decide +kernel
set_option maxRecDepth 1000000 in
theorem nm_ck38 : nm_chk 3000 6 [] 1558 = true := by decide +kernel
set_option maxRecDepth 1000000 in
theorem nm_ck39 : nm_chk 3000 6 [] 1583 = true := by decide +kernel
set_option maxRecDepth 1000000 in
theorem nm_ck40 : nm_chk 3000 6 [] 1608 = true := by decide +kernel
set_option maxRecDepth 1000000 in
theorem nm_ck41 : nm_chk 3000 6 [] 1633 = true := by decide +kernel
end
section
section nm_s4
variable {p : Program} {l : Launch} {e : Env} {s : State} {m : MethodId} {below : List Frame} {meth : Method} {c : Code} {b : Nat} {xs : Nat → Int32} {D : va_G} {dA : Nat → ClassId}
theorem nm_sp36 (C0 : lw_At p s m meth c b 6 xs) (hK : va_K D nm_cl (px_tys nm_T dA) s) {lv : List (Nat × Value)} {st : List Value} {hp : px_H} (hA : ab_s xs nm_A0 lv st hp) : nm_G p l e s m below meth c b D dA (1508, lv, st, hp, 106, 103614) := by
  sorry
theorem nm_sp37 (C0 : lw_At p s m meth c b 6 xs) (hK : va_K D nm_cl (px_tys nm_T dA) s) {lv : List (Nat × Value)} {st : List Value} {hp : px_H} (hA : ab_s xs nm_A0 lv st hp) : nm_G p l e s m below meth c b D dA (1545, lv, st, hp, 106, 103614) := by
  sorry
theorem nm_sp42 (C0 : lw_At p s m meth c b 6 xs) (hK : va_K D nm_cl (px_tys nm_T dA) s) {lv : List (Nat × Value)} {st : List Value} {hp : px_H} (hA : ab_s xs nm_A0 lv st hp) : nm_G p l e s m below meth c b D dA (1658, lv, st, hp, 106, 103614) := by
  sorry
set_option maxHeartbeats 4000000 in
theorem nm_case (C0 : lw_At p s m meth c b 6 xs) (hK : va_K D nm_cl (px_tys nm_T dA) s) (pc' : Nat) (hm : pc' ∈ nm_pcs) {lv : List (Nat × Value)} {st : List Value} {hp : px_H} (hA : ab_s xs nm_A0 lv st hp) : nm_G p l e s m below meth c b D dA (pc', lv, st, hp, 106, 103614) := by
  simp only [nm_pcs, List.mem_cons, List.not_mem_nil, or_false] at hm
  rcases hm with rfl | rfl | rfl | rfl | rfl | rfl | rfl | rfl | rfl | rfl | rfl | rfl | rfl | rfl | rfl | rfl | rfl | rfl | rfl | rfl | rfl | rfl | rfl | rfl | rfl | rfl | rfl | rfl | rfl | rfl | rfl | rfl | rfl | rfl | rfl | rfl | rfl | rfl | rfl | rfl | rfl | rfl | rfl
  · exact nm_G_chk C0 hK nm_ck0 hA (fun _ _ _ _ h => absurd h List.not_mem_nil)
  · exact nm_G_chk C0 hK nm_ck1 hA (fun _ _ _ _ h => absurd h List.not_mem_nil)
  · exact nm_G_chk C0 hK nm_ck2 hA (fun _ _ _ _ h => absurd h List.not_mem_nil)
  · exact nm_G_chk C0 hK nm_ck3 hA (fun _ _ _ _ h => absurd h List.not_mem_nil)
  · exact nm_G_chk C0 hK nm_ck4 hA (fun _ _ _ _ h => absurd h List.not_mem_nil)
  · exact nm_G_chk C0 hK nm_ck5 hA (fun _ _ _ _ h => absurd h List.not_mem_nil)
  · exact nm_G_chk C0 hK nm_ck6 hA (fun _ _ _ _ h => absurd h List.not_mem_nil)
  · exact nm_G_chk C0 hK nm_ck7 hA (fun _ _ _ _ h => absurd h List.not_mem_nil)
  · exact nm_G_chk C0 hK nm_ck8 hA (fun _ _ _ _ h => absurd h List.not_mem_nil)
  · exact nm_G_chk C0 hK nm_ck9 hA (fun _ _ _ _ h => absurd h List.not_mem_nil)
  · exact nm_G_chk C0 hK nm_ck10 hA (fun _ _ _ _ h => absurd h List.not_mem_nil)
  · exact nm_G_chk C0 hK nm_ck11 hA (fun _ _ _ _ h => absurd h List.not_mem_nil)
  · exact nm_G_chk C0 hK nm_ck12 hA (fun _ _ _ _ h => absurd h List.not_mem_nil)
  · exact nm_G_chk C0 hK nm_ck13 hA (fun _ _ _ _ h => absurd h List.not_mem_nil)
  · exact nm_G_chk C0 hK nm_ck14 hA (fun _ _ _ _ h => absurd h List.not_mem_nil)
  · exact nm_G_chk C0 hK nm_ck15 hA (fun _ _ _ _ h => absurd h List.not_mem_nil)
  · exact nm_G_chk C0 hK nm_ck16 hA (fun _ _ _ _ h => absurd h List.not_mem_nil)
  · exact nm_G_chk C0 hK nm_ck17 hA (fun _ _ _ _ h => absurd h List.not_mem_nil)
  · exact nm_G_chk C0 hK nm_ck18 hA (fun _ _ _ _ h => absurd h List.not_mem_nil)
  · exact nm_G_chk C0 hK nm_ck19 hA (fun _ _ _ _ h => absurd h List.not_mem_nil)
  · exact nm_G_chk C0 hK nm_ck20 hA (fun _ _ _ _ h => absurd h List.not_mem_nil)
  · exact nm_G_chk C0 hK nm_ck21 hA (fun _ _ _ _ h => absurd h List.not_mem_nil)
  · exact nm_G_chk C0 hK nm_ck22 hA (fun _ _ _ _ h => absurd h List.not_mem_nil)
  · exact nm_G_chk C0 hK nm_ck23 hA (fun _ _ _ _ h => absurd h List.not_mem_nil)
  · exact nm_G_chk C0 hK nm_ck24 hA (fun _ _ _ _ h => absurd h List.not_mem_nil)
  · exact nm_G_chk C0 hK nm_ck25 hA (fun _ _ _ _ h => absurd h List.not_mem_nil)
  · exact nm_G_chk C0 hK nm_ck26 hA (fun _ _ _ _ h => absurd h List.not_mem_nil)
  · exact nm_G_chk C0 hK nm_ck27 hA (fun _ _ _ _ h => absurd h List.not_mem_nil)
  · exact nm_G_chk C0 hK nm_ck28 hA (fun _ _ _ _ h => absurd h List.not_mem_nil)
  · exact nm_G_chk C0 hK nm_ck29 hA (fun _ _ _ _ h => absurd h List.not_mem_nil)
  · exact nm_G_chk C0 hK nm_ck30 hA (fun _ _ _ _ h => absurd h List.not_mem_nil)
  · exact nm_G_chk C0 hK nm_ck31 hA (fun _ _ _ _ h => absurd h List.not_mem_nil)
  · exact nm_G_chk C0 hK nm_ck32 hA (fun _ _ _ _ h => absurd h List.not_mem_nil)
  · exact nm_G_chk C0 hK nm_ck33 hA (fun _ _ _ _ h => absurd h List.not_mem_nil)
  · exact nm_G_chk C0 hK nm_ck34 hA (fun _ _ _ _ h => absurd h List.not_mem_nil)
  · exact nm_G_chk C0 hK nm_ck35 hA (fun _ _ _ _ h => absurd h List.not_mem_nil)
  · exact nm_sp36 C0 hK hA
  · exact nm_sp37 C0 hK hA
  · exact nm_G_chk C0 hK nm_ck38 hA (fun _ _ _ _ h => absurd h List.not_mem_nil)
  · exact nm_G_chk C0 hK nm_ck39 hA (fun _ _ _ _ h => absurd h List.not_mem_nil)
  · exact nm_G_chk C0 hK nm_ck40 hA (fun _ _ _ _ h => absurd h List.not_mem_nil)
  · exact nm_G_chk C0 hK nm_ck41 hA (fun _ _ _ _ h => absurd h List.not_mem_nil)
  · exact nm_sp42 C0 hK hA
end nm_s4
theorem whole_start {p : Program} {e : Env} {s : State} {m : MethodId} {below : List Frame} {meth : Method} {c : Code} (l : Launch) {b L : Nat} {xs : Nat → Int32} (hL : L ≤ 6) (C0 : lw_At p s m meth c b L xs) : W p l e room_1 s m #[Value.ref b] below meth c s.heap [] 0 0 (lw_Z below #[Value.ref b] s) (entryFrame m ([Value.ref b] : List Value).toArray 8) := by
  refine nm_start l hL C0 (fun D dA hK => nm_G_steps C0 hK 400 13 _ _ (nm_c0 _) ?_)
  have hA := nm_A0_ok xs
  have h7 : L = 0 ∨ L = 1 ∨ L = 2 ∨ L = 3 ∨ L = 4 ∨ L = 5 ∨ L = 6 := by omega
  rcases h7 with rfl | rfl | rfl | rfl | rfl | rfl | rfl
  · exact nm_G_chk C0 hK nm_ckL0 hA (fun _ _ _ _ h => absurd h List.not_mem_nil)
  · exact nm_G_chk C0 hK nm_ckL1 hA (fun _ _ _ _ h => absurd h List.not_mem_nil)
  · exact nm_G_chk C0 hK nm_ckL2 hA (fun _ _ _ _ h => absurd h List.not_mem_nil)
  · exact nm_G_chk C0 hK nm_ckL3 hA (fun _ _ _ _ h => absurd h List.not_mem_nil)
  · exact nm_G_chk C0 hK nm_ckL4 hA (fun _ _ _ _ h => absurd h List.not_mem_nil)
  · exact nm_G_chk C0 hK nm_ckL5 hA (fun _ _ _ _ h => absurd h List.not_mem_nil)
  · exact nm_G_chk C0 hK nm_ckm hA (fun pc' lv' st' hp' hm hA' => nm_case C0 hK pc' hm hA')
end
section
-- ===== YOUR PART ENDS =====
set_option maxHeartbeats 4000000 in
theorem lw_walk (l : Launch) (b : Addr) (xs : List Int32) : MetFree l x (headSpec (Jvm.Cond.code x code maxLocals ret :: tables_1) room_1) (lw_P b xs) (fun _ _ _ _ _ => True) lw_Q := by
  refine MetFree.of_bodyS (code := code) (maxLocals := maxLocals) (ret := ret) (by decide) ?_ ?_
  · intro args s m h hn
    obtain ⟨meth, c, h1, h2, h3, h4, h5, h6, -, -⟩ := Cond.code_spec hn (atoms_spec (ws := Jvm.Cond.code x code maxLocals ret :: tables_1) h _ List.mem_cons_self)
    exact ⟨meth, c, h1, h2, h3, h4, h5, h6⟩
  · intro p e s m args below meth c s₁ B hml0 hP _
    obtain ⟨rfl, hx, hbd, hgv⟩ := hP
    obtain ⟨scr, harrAt, hlist, hof, hsmall⟩ := hx
    obtain ⟨hcb, hkn, -, -⟩ := State.arrayAt?_spec harrAt
    have hown : s.vm.findClass R_law = some m.cls := findClass_of_methodNamed B.named
    have hts0 : ∀ c ∈ (Jvm.Cond.code x code maxLocals ret :: tables_1), c.before #[Value.ref b] s = true := atoms_spec (ws := Jvm.Cond.code x code maxLocals ret :: tables_1) B.pre
    have hts : ∀ w ∈ lw_tbl, w.before #[Value.ref b] s = true := k2_hts_sels lw_privs (fun w hw => hts0 w (List.mem_cons_of_mem _ hw)) lw_privs_ok
    have hml : c.maxLocals = 8 := B.maxLocals_eq (hts0 _ List.mem_cons_self)
    have X₀ : Stand p l e room_1 s m #[Value.ref b] below meth c s₁ [] 0 0 := Stand.of_body B
    have hh0 : s₁.heap = s.heap := by rw [B.state]; rfl
    have hsz : scr.slots.size = xs.length := by rw [← Array.length_toList, hlist, List.length_map]
    have hval : ∀ j : Nat, j < xs.length → scr.slots[j]? = some (.int (xs.getD j 0)) := fun j hj => by
      rw [← Array.getElem?_toList, hlist]
      simp [hj]
    have hbl : b < s.heap.size := (Array.getElem?_eq_some_iff.mp hcb).1
    have hX : va_X b xs.length (fun j => xs.getD j 0) s s.heap := ⟨scr, hcb, hof, hkn, hsz, hval⟩
    have K : W p l e room_1 s m #[Value.ref b] below meth c s₁.heap [] 0 0 (lw_Z below #[Value.ref b] s) (entryFrame m ([Value.ref b] : List Value).toArray 8) := by
      rw [hh0]
      exact whole_start l hbd ⟨B.exec, B.bytes, B.returns, hml, hown, hts, hX, hbl, B.notSynchronized, hgv⟩
    obtain ⟨t, a1, o, b1, b2, b3⟩ := K s₁ rfl X₀
    exact ⟨t, o, a1, b1, b2, b3⟩
theorem lw_pre_spec {args : Array Value} {s : State} (h : (Jvm.Cond.and given_1 narrow_1).before args s = true) (hr : rest_1_c.before args s = true) : ∃ (b : Addr) (xs : List Int32), lw_P b xs args s := by
  have hs := flat_of_before _ h
  have hq := flat_of_before _ hr
  have hc : (Cond.count 1).before args s = true := hs _ (by decide +kernel)
  have harr : (Cond.arrayOf (.arg 0) .int).before args s = true := hs _ (by decide +kernel)
  have hle : (Cond.le (.length (.arg 0)) (.int 6)).before args s = true := hs _ (by decide +kernel)
  have hlen : (Cond.isInt (.length (.arg 0))).before args s = true := hq _ (by decide +kernel)
  have hall : (Cond.all (.arg 0) (.isInt (.elem (.arg 0) (.index 0)))).before args s = true := hq _ (by decide +kernel)
  obtain ⟨b, xs, hb, hx⟩ := State.ints_of_pre rfl harr hlen hall
  have hsm : xs.length < 2 ^ 31 := hx.choose_spec.2.2.2
  have hev : (Term.length (.arg 0)).eval args s none [] s = some (.int xs.length.toInt32) := hx.length_eval hb
  have hv := Cond.le_ints hev (show (Term.int 6).eval args s none [] s = some (.int 6) from rfl)
  have hd : xs.length.toInt32 ≤ 6 := by
    simpa [Cond.before, Cond.holds, hv] using hle
  have hN : xs.length ≤ 6 := (Int32.ofNat_le_ofNat hsm (by decide)).mp (show Int32.ofNat xs.length ≤ Int32.ofNat 6 from hd)
  exact ⟨b, xs, Cond.one_arg hc (show args[0]? = some (.ref b) from hb), hx, hN, h⟩
theorem lw_comes (l : Launch) : Comes l x (Jvm.Cond.code x code maxLocals ret :: tables_1) room_1 (fun tb e args s => Calls_1 tb e args s ∧ rest_1 tb e args s ∧ Pre_1 tb e args s)
    (fun _ _ args s o t => lw_Q args s o t) := by
  intro p e ha hc hk s m args below hf hfit hheap happ hpre
  obtain ⟨b, xs, hP⟩ := lw_pre_spec hpre.2.2 hpre.2.1
  obtain ⟨k, o, h1, h2, h3, hQ⟩ := lw_walk l b xs p e ha hc hk s m args below hf ((Spec.applies_iff_loose hf).mp happ).1 hP trivial
  exact ⟨k, o, h1, h2, h3, hQ⟩
theorem lw_frame {s t : State} {o : Outcome} {args : Array Value} (h : Framed s o t [] 600002 7302232) :
    Framed s o t (fieldLocs frame_1_writes args s ++ arrayLocs frame_1_arrays args s ++ staticLocs frame_1_statics s) 600002 7302232 := h
theorem lw_limb (L : Cond) (hL : ∀ (args : Array Value) (s t : State), L.after args s (.returned (some (.int 1))) t = true) :
    ArmFor flags0 classFile x code maxLocals ret World_1 tables_1 room_1 Calls_1 rest_1 Pre_1
      (fun tb e a s o t => postC L tb e a s o t ∧ Framed s o t (fieldLocs frame_1_writes a s ++ arrayLocs frame_1_arrays a s ++ staticLocs frame_1_statics s) 600002 7302232) := by
  intro l _ _ _ p e ha hc hk s m args below hf hfit hheap happ hpre
  obtain ⟨k, o, h1, h2, h3, rfl, hF⟩ := lw_comes l p e ha hc hk s m args below hf hfit hheap happ hpre
  exact ⟨k, _, h1, h2, h3, hL args s _, lw_frame hF⟩
theorem i_vc : Claimed_1_1 ∧ Claimed_1_2 := ⟨lw_limb limb_1_1 (fun args s t => by simp [limb_1_1, Cond.after, Cond.holds, Cond.value]), lw_limb limb_1_2 (fun args s t => Cond.after_iff.mpr (by
  first | (rw [show limb_1_2 = Cond.eq .result (.int 1) from rfl, Cond.eq_ints (x := 1) (y := 1) rfl rfl]; simp; done) | (simp [limb_1_2, Cond.value, Term.eval]; done)))⟩
end
