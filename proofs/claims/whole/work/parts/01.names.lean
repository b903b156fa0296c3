-- ===== PART A: goes FIRST, ahead of the names: the tables' words, and 'selects' of the private methods out of them =====
/-- a private method of a class that the tables say can be made, by its rows of tables_1 -/
def lw_okq (q : MethodName × Nat) : Prop := (q.1.cls ≠ "java/lang/invoke/MethodHandle" ∧ q.1.cls ≠ "java/lang/invoke/VarHandle") ∧ Cond.instantiable q.1.cls q.2 ∈ tables_1 ∧ Cond.privateMethod q.1 ∈ tables_1 ∧ Cond.instanceMethod q.1 ∈ tables_1
theorem lw_p0 : lw_okq (⟨"NailedYears$Items", "readNumbers", "(LNailedYears$Text;I)I"⟩, 3) := ⟨⟨by decide +kernel, by decide +kernel⟩, List.mem_of_getElem? (i := 41) (by decide +kernel), List.mem_of_getElem? (i := 207) (by decide +kernel), List.mem_of_getElem? (i := 208) (by decide +kernel)⟩
theorem lw_p1 : lw_okq (⟨"NailedYears$Items", "takeItem", "(ILNailedYears$Wall;)Z"⟩, 3) := ⟨⟨by decide +kernel, by decide +kernel⟩, List.mem_of_getElem? (i := 41) (by decide +kernel), List.mem_of_getElem? (i := 218) (by decide +kernel), List.mem_of_getElem? (i := 219) (by decide +kernel)⟩
theorem lw_p2 : lw_okq (⟨"NailedYears$Items", "takeWall", "(LNailedYears$Wall;)Z"⟩, 3) := ⟨⟨by decide +kernel, by decide +kernel⟩, List.mem_of_getElem? (i := 41) (by decide +kernel), List.mem_of_getElem? (i := 222) (by decide +kernel), List.mem_of_getElem? (i := 223) (by decide +kernel)⟩
theorem lw_p3 : lw_okq (⟨"NailedYears$Items", "number", "(I)I"⟩, 3) := ⟨⟨by decide +kernel, by decide +kernel⟩, List.mem_of_getElem? (i := 41) (by decide +kernel), List.mem_of_getElem? (i := 226) (by decide +kernel), List.mem_of_getElem? (i := 227) (by decide +kernel)⟩
theorem lw_p4 : lw_okq (⟨"NailedYears$Items", "takeNail", "(LNailedYears$Wall;)Z"⟩, 3) := ⟨⟨by decide +kernel, by decide +kernel⟩, List.mem_of_getElem? (i := 41) (by decide +kernel), List.mem_of_getElem? (i := 233) (by decide +kernel), List.mem_of_getElem? (i := 234) (by decide +kernel)⟩
theorem lw_p5 : lw_okq (⟨"NailedYears$Items", "takeDamp", "(LNailedYears$Wall;)Z"⟩, 3) := ⟨⟨by decide +kernel, by decide +kernel⟩, List.mem_of_getElem? (i := 41) (by decide +kernel), List.mem_of_getElem? (i := 290) (by decide +kernel), List.mem_of_getElem? (i := 291) (by decide +kernel)⟩
theorem lw_p6 : lw_okq (⟨"NailedYears$Items", "takeBell", "(LNailedYears$Wall;)Z"⟩, 3) := ⟨⟨by decide +kernel, by decide +kernel⟩, List.mem_of_getElem? (i := 41) (by decide +kernel), List.mem_of_getElem? (i := 302) (by decide +kernel), List.mem_of_getElem? (i := 303) (by decide +kernel)⟩
theorem lw_p7 : lw_okq (⟨"NailedYears$Walls", "dropOldest", "()V"⟩, 2) := ⟨⟨by decide +kernel, by decide +kernel⟩, List.mem_of_getElem? (i := 306) (by decide +kernel), List.mem_of_getElem? (i := 476) (by decide +kernel), List.mem_of_getElem? (i := 477) (by decide +kernel)⟩
theorem lw_p8 : lw_okq (⟨"NailedYears$Wall", "ringBell", "()V"⟩, 8) := ⟨⟨by decide +kernel, by decide +kernel⟩, List.mem_of_getElem? (i := 113) (by decide +kernel), List.mem_of_getElem? (i := 503) (by decide +kernel), List.mem_of_getElem? (i := 504) (by decide +kernel)⟩
theorem lw_p9 : lw_okq (⟨"NailedYears$Wall", "leanRight", "(LNailedYears$Nail;)V"⟩, 8) := ⟨⟨by decide +kernel, by decide +kernel⟩, List.mem_of_getElem? (i := 113) (by decide +kernel), List.mem_of_getElem? (i := 514) (by decide +kernel), List.mem_of_getElem? (i := 515) (by decide +kernel)⟩
theorem lw_p10 : lw_okq (⟨"NailedYears$Wall", "mixLoose", "()I"⟩, 8) := ⟨⟨by decide +kernel, by decide +kernel⟩, List.mem_of_getElem? (i := 113) (by decide +kernel), List.mem_of_getElem? (i := 523) (by decide +kernel), List.mem_of_getElem? (i := 524) (by decide +kernel)⟩
theorem lw_p11 : lw_okq (⟨"NailedYears$Wall", "mixWithHigher", "(I)I"⟩, 8) := ⟨⟨by decide +kernel, by decide +kernel⟩, List.mem_of_getElem? (i := 113) (by decide +kernel), List.mem_of_getElem? (i := 528) (by decide +kernel), List.mem_of_getElem? (i := 529) (by decide +kernel)⟩
theorem lw_p12 : lw_okq (⟨"NailedYears", "lookAhead", "(I)V"⟩, 9) := ⟨⟨by decide +kernel, by decide +kernel⟩, List.mem_of_getElem? (i := 17) (by decide +kernel), List.mem_of_getElem? (i := 584) (by decide +kernel), List.mem_of_getElem? (i := 585) (by decide +kernel)⟩
theorem lw_p13 : lw_okq (⟨"NailedYears$Gaps", "findOpen", "(LNailedYears$Wall;)V"⟩, 2) := ⟨⟨by decide +kernel, by decide +kernel⟩, List.mem_of_getElem? (i := 346) (by decide +kernel), List.mem_of_getElem? (i := 608) (by decide +kernel), List.mem_of_getElem? (i := 609) (by decide +kernel)⟩
theorem lw_p14 : lw_okq (⟨"NailedYears$Gaps", "closeRound", "(II)V"⟩, 2) := ⟨⟨by decide +kernel, by decide +kernel⟩, List.mem_of_getElem? (i := 346) (by decide +kernel), List.mem_of_getElem? (i := 614) (by decide +kernel), List.mem_of_getElem? (i := 615) (by decide +kernel)⟩
theorem lw_p15 : lw_okq (⟨"NailedYears$Gaps", "close", "(II)V"⟩, 2) := ⟨⟨by decide +kernel, by decide +kernel⟩, List.mem_of_getElem? (i := 346) (by decide +kernel), List.mem_of_getElem? (i := 618) (by decide +kernel), List.mem_of_getElem? (i := 619) (by decide +kernel)⟩
def lw_privs_1 : List (MethodName × Nat) := [(⟨"NailedYears$Items", "readNumbers", "(LNailedYears$Text;I)I"⟩, 3), (⟨"NailedYears$Items", "takeItem", "(ILNailedYears$Wall;)Z"⟩, 3), (⟨"NailedYears$Items", "takeWall", "(LNailedYears$Wall;)Z"⟩, 3), (⟨"NailedYears$Items", "number", "(I)I"⟩, 3), (⟨"NailedYears$Items", "takeNail", "(LNailedYears$Wall;)Z"⟩, 3), (⟨"NailedYears$Items", "takeDamp", "(LNailedYears$Wall;)Z"⟩, 3), (⟨"NailedYears$Items", "takeBell", "(LNailedYears$Wall;)Z"⟩, 3), (⟨"NailedYears$Walls", "dropOldest", "()V"⟩, 2), (⟨"NailedYears$Wall", "ringBell", "()V"⟩, 8), (⟨"NailedYears$Wall", "leanRight", "(LNailedYears$Nail;)V"⟩, 8), (⟨"NailedYears$Wall", "mixLoose", "()I"⟩, 8), (⟨"NailedYears$Wall", "mixWithHigher", "(I)I"⟩, 8), (⟨"NailedYears", "lookAhead", "(I)V"⟩, 9), (⟨"NailedYears$Gaps", "findOpen", "(LNailedYears$Wall;)V"⟩, 2), (⟨"NailedYears$Gaps", "closeRound", "(II)V"⟩, 2), (⟨"NailedYears$Gaps", "close", "(II)V"⟩, 2)]
theorem lw_r1 : ∀ q ∈ lw_privs_1, lw_okq q := List.forall_mem_cons.mpr ⟨lw_p0, List.forall_mem_cons.mpr ⟨lw_p1, List.forall_mem_cons.mpr ⟨lw_p2, List.forall_mem_cons.mpr ⟨lw_p3, List.forall_mem_cons.mpr ⟨lw_p4, List.forall_mem_cons.mpr ⟨lw_p5, List.forall_mem_cons.mpr ⟨lw_p6, List.forall_mem_cons.mpr ⟨lw_p7, List.forall_mem_cons.mpr ⟨lw_p8, List.forall_mem_cons.mpr ⟨lw_p9, List.forall_mem_cons.mpr ⟨lw_p10, List.forall_mem_cons.mpr ⟨lw_p11, List.forall_mem_cons.mpr ⟨lw_p12, List.forall_mem_cons.mpr ⟨lw_p13, List.forall_mem_cons.mpr ⟨lw_p14, List.forall_mem_cons.mpr ⟨lw_p15, fun _ h => absurd h List.not_mem_nil⟩⟩⟩⟩⟩⟩⟩⟩⟩⟩⟩⟩⟩⟩⟩⟩
theorem lw_p16 : lw_okq (⟨"NailedYears", "lossOf", "(II)I"⟩, 9) := ⟨⟨by decide +kernel, by decide +kernel⟩, List.mem_of_getElem? (i := 17) (by decide +kernel), List.mem_of_getElem? (i := 650) (by decide +kernel), List.mem_of_getElem? (i := 651) (by decide +kernel)⟩
theorem lw_p17 : lw_okq (⟨"NailedYears$Wall", "touchesAny", "(II)Z"⟩, 8) := ⟨⟨by decide +kernel, by decide +kernel⟩, List.mem_of_getElem? (i := 113) (by decide +kernel), List.mem_of_getElem? (i := 677) (by decide +kernel), List.mem_of_getElem? (i := 678) (by decide +kernel)⟩
theorem lw_p18 : lw_okq (⟨"NailedYears", "comesAsMeasured", "(I)Z"⟩, 9) := ⟨⟨by decide +kernel, by decide +kernel⟩, List.mem_of_getElem? (i := 17) (by decide +kernel), List.mem_of_getElem? (i := 705) (by decide +kernel), List.mem_of_getElem? (i := 706) (by decide +kernel)⟩
theorem lw_p19 : lw_okq (⟨"NailedYearsModel", "adds", "(IIIII)V"⟩, 27) := ⟨⟨by decide +kernel, by decide +kernel⟩, List.mem_of_getElem? (i := 778) (by decide +kernel), List.mem_of_getElem? (i := 784) (by decide +kernel), List.mem_of_getElem? (i := 785) (by decide +kernel)⟩
theorem lw_p20 : lw_okq (⟨"NailedYearsModel", "reads", "()Z"⟩, 27) := ⟨⟨by decide +kernel, by decide +kernel⟩, List.mem_of_getElem? (i := 778) (by decide +kernel), List.mem_of_getElem? (i := 887) (by decide +kernel), List.mem_of_getElem? (i := 888) (by decide +kernel)⟩
theorem lw_p21 : lw_okq (⟨"NailedYearsModel", "next", "()I"⟩, 27) := ⟨⟨by decide +kernel, by decide +kernel⟩, List.mem_of_getElem? (i := 778) (by decide +kernel), List.mem_of_getElem? (i := 891) (by decide +kernel), List.mem_of_getElem? (i := 892) (by decide +kernel)⟩
theorem lw_p22 : lw_okq (⟨"NailedYearsModel", "item", "(I)V"⟩, 27) := ⟨⟨by decide +kernel, by decide +kernel⟩, List.mem_of_getElem? (i := 778) (by decide +kernel), List.mem_of_getElem? (i := 895) (by decide +kernel), List.mem_of_getElem? (i := 896) (by decide +kernel)⟩
theorem lw_p23 : lw_okq (⟨"NailedYearsModel", "number", "(II)I"⟩, 27) := ⟨⟨by decide +kernel, by decide +kernel⟩, List.mem_of_getElem? (i := 778) (by decide +kernel), List.mem_of_getElem? (i := 899) (by decide +kernel), List.mem_of_getElem? (i := 900) (by decide +kernel)⟩
theorem lw_p24 : lw_okq (⟨"NailedYearsModel", "more", "(II)I"⟩, 27) := ⟨⟨by decide +kernel, by decide +kernel⟩, List.mem_of_getElem? (i := 778) (by decide +kernel), List.mem_of_getElem? (i := 905) (by decide +kernel), List.mem_of_getElem? (i := 906) (by decide +kernel)⟩
theorem lw_p25 : lw_okq (⟨"NailedYearsModel", "inside", "(II)I"⟩, 27) := ⟨⟨by decide +kernel, by decide +kernel⟩, List.mem_of_getElem? (i := 778) (by decide +kernel), List.mem_of_getElem? (i := 909) (by decide +kernel), List.mem_of_getElem? (i := 910) (by decide +kernel)⟩
theorem lw_p26 : lw_okq (⟨"NailedYearsModel", "copies", "(II)V"⟩, 27) := ⟨⟨by decide +kernel, by decide +kernel⟩, List.mem_of_getElem? (i := 778) (by decide +kernel), List.mem_of_getElem? (i := 917) (by decide +kernel), List.mem_of_getElem? (i := 918) (by decide +kernel)⟩
theorem lw_p27 : lw_okq (⟨"NailedYearsModel", "isNail", "(I)Z"⟩, 27) := ⟨⟨by decide +kernel, by decide +kernel⟩, List.mem_of_getElem? (i := 778) (by decide +kernel), List.mem_of_getElem? (i := 925) (by decide +kernel), List.mem_of_getElem? (i := 926) (by decide +kernel)⟩
theorem lw_p28 : lw_okq (⟨"NailedYearsModel", "isLoose", "(II)Z"⟩, 27) := ⟨⟨by decide +kernel, by decide +kernel⟩, List.mem_of_getElem? (i := 778) (by decide +kernel), List.mem_of_getElem? (i := 930) (by decide +kernel), List.mem_of_getElem? (i := 931) (by decide +kernel)⟩
theorem lw_p29 : lw_okq (⟨"NailedYearsModel", "isCell", "(I)Z"⟩, 27) := ⟨⟨by decide +kernel, by decide +kernel⟩, List.mem_of_getElem? (i := 778) (by decide +kernel), List.mem_of_getElem? (i := 939) (by decide +kernel), List.mem_of_getElem? (i := 940) (by decide +kernel)⟩
theorem lw_p30 : lw_okq (⟨"NailedYearsModel", "known", "()V"⟩, 27) := ⟨⟨by decide +kernel, by decide +kernel⟩, List.mem_of_getElem? (i := 778) (by decide +kernel), List.mem_of_getElem? (i := 952) (by decide +kernel), List.mem_of_getElem? (i := 953) (by decide +kernel)⟩
theorem lw_p31 : lw_okq (⟨"NailedYearsModel", "moistens", "()V"⟩, 27) := ⟨⟨by decide +kernel, by decide +kernel⟩, List.mem_of_getElem? (i := 778) (by decide +kernel), List.mem_of_getElem? (i := 956) (by decide +kernel), List.mem_of_getElem? (i := 957) (by decide +kernel)⟩
def lw_privs_2 : List (MethodName × Nat) := [(⟨"NailedYears", "lossOf", "(II)I"⟩, 9), (⟨"NailedYears$Wall", "touchesAny", "(II)Z"⟩, 8), (⟨"NailedYears", "comesAsMeasured", "(I)Z"⟩, 9), (⟨"NailedYearsModel", "adds", "(IIIII)V"⟩, 27), (⟨"NailedYearsModel", "reads", "()Z"⟩, 27), (⟨"NailedYearsModel", "next", "()I"⟩, 27), (⟨"NailedYearsModel", "item", "(I)V"⟩, 27), (⟨"NailedYearsModel", "number", "(II)I"⟩, 27), (⟨"NailedYearsModel", "more", "(II)I"⟩, 27), (⟨"NailedYearsModel", "inside", "(II)I"⟩, 27), (⟨"NailedYearsModel", "copies", "(II)V"⟩, 27), (⟨"NailedYearsModel", "isNail", "(I)Z"⟩, 27), (⟨"NailedYearsModel", "isLoose", "(II)Z"⟩, 27), (⟨"NailedYearsModel", "isCell", "(I)Z"⟩, 27), (⟨"NailedYearsModel", "known", "()V"⟩, 27), (⟨"NailedYearsModel", "moistens", "()V"⟩, 27)]
theorem lw_r2 : ∀ q ∈ lw_privs_2, lw_okq q := List.forall_mem_cons.mpr ⟨lw_p16, List.forall_mem_cons.mpr ⟨lw_p17, List.forall_mem_cons.mpr ⟨lw_p18, List.forall_mem_cons.mpr ⟨lw_p19, List.forall_mem_cons.mpr ⟨lw_p20, List.forall_mem_cons.mpr ⟨lw_p21, List.forall_mem_cons.mpr ⟨lw_p22, List.forall_mem_cons.mpr ⟨lw_p23, List.forall_mem_cons.mpr ⟨lw_p24, List.forall_mem_cons.mpr ⟨lw_p25, List.forall_mem_cons.mpr ⟨lw_p26, List.forall_mem_cons.mpr ⟨lw_p27, List.forall_mem_cons.mpr ⟨lw_p28, List.forall_mem_cons.mpr ⟨lw_p29, List.forall_mem_cons.mpr ⟨lw_p30, List.forall_mem_cons.mpr ⟨lw_p31, fun _ h => absurd h List.not_mem_nil⟩⟩⟩⟩⟩⟩⟩⟩⟩⟩⟩⟩⟩⟩⟩⟩
theorem lw_p32 : lw_okq (⟨"NailedYearsModel", "day", "(I)V"⟩, 27) := ⟨⟨by decide +kernel, by decide +kernel⟩, List.mem_of_getElem? (i := 778) (by decide +kernel), List.mem_of_getElem? (i := 960) (by decide +kernel), List.mem_of_getElem? (i := 961) (by decide +kernel)⟩
theorem lw_p33 : lw_okq (⟨"NailedYearsModel", "goes", "(IZ)V"⟩, 27) := ⟨⟨by decide +kernel, by decide +kernel⟩, List.mem_of_getElem? (i := 778) (by decide +kernel), List.mem_of_getElem? (i := 964) (by decide +kernel), List.mem_of_getElem? (i := 965) (by decide +kernel)⟩
theorem lw_p34 : lw_okq (⟨"NailedYearsModel", "rusts", "(II)V"⟩, 27) := ⟨⟨by decide +kernel, by decide +kernel⟩, List.mem_of_getElem? (i := 778) (by decide +kernel), List.mem_of_getElem? (i := 968) (by decide +kernel), List.mem_of_getElem? (i := 969) (by decide +kernel)⟩
theorem lw_p35 : lw_okq (⟨"NailedYearsModel", "shakes", "(II)I"⟩, 27) := ⟨⟨by decide +kernel, by decide +kernel⟩, List.mem_of_getElem? (i := 778) (by decide +kernel), List.mem_of_getElem? (i := 972) (by decide +kernel), List.mem_of_getElem? (i := 973) (by decide +kernel)⟩
theorem lw_p36 : lw_okq (⟨"NailedYearsModel", "isBeside", "(II)Z"⟩, 27) := ⟨⟨by decide +kernel, by decide +kernel⟩, List.mem_of_getElem? (i := 778) (by decide +kernel), List.mem_of_getElem? (i := 979) (by decide +kernel), List.mem_of_getElem? (i := 980) (by decide +kernel)⟩
theorem lw_p37 : lw_okq (⟨"NailedYearsModel", "begins", "()V"⟩, 27) := ⟨⟨by decide +kernel, by decide +kernel⟩, List.mem_of_getElem? (i := 778) (by decide +kernel), List.mem_of_getElem? (i := 1020) (by decide +kernel), List.mem_of_getElem? (i := 1021) (by decide +kernel)⟩
theorem lw_p38 : lw_okq (⟨"NailedYearsModel", "rooms", "(I)I"⟩, 27) := ⟨⟨by decide +kernel, by decide +kernel⟩, List.mem_of_getElem? (i := 778) (by decide +kernel), List.mem_of_getElem? (i := 1036) (by decide +kernel), List.mem_of_getElem? (i := 1037) (by decide +kernel)⟩
theorem lw_p39 : lw_okq (⟨"NailedYearsModel", "isKept", "(III)Z"⟩, 27) := ⟨⟨by decide +kernel, by decide +kernel⟩, List.mem_of_getElem? (i := 778) (by decide +kernel), List.mem_of_getElem? (i := 1047) (by decide +kernel), List.mem_of_getElem? (i := 1048) (by decide +kernel)⟩
theorem lw_p40 : lw_okq (⟨"NailedYearsModel", "isSo", "(I)Z"⟩, 27) := ⟨⟨by decide +kernel, by decide +kernel⟩, List.mem_of_getElem? (i := 778) (by decide +kernel), List.mem_of_getElem? (i := 1071) (by decide +kernel), List.mem_of_getElem? (i := 1072) (by decide +kernel)⟩
theorem lw_p41 : lw_okq (⟨"NailedYearsModel", "out", "(I)I"⟩, 27) := ⟨⟨by decide +kernel, by decide +kernel⟩, List.mem_of_getElem? (i := 778) (by decide +kernel), List.mem_of_getElem? (i := 1097) (by decide +kernel), List.mem_of_getElem? (i := 1098) (by decide +kernel)⟩
theorem lw_p42 : lw_okq (⟨"NailedYearsModel", "loose", "(I)I"⟩, 27) := ⟨⟨by decide +kernel, by decide +kernel⟩, List.mem_of_getElem? (i := 778) (by decide +kernel), List.mem_of_getElem? (i := 1101) (by decide +kernel), List.mem_of_getElem? (i := 1102) (by decide +kernel)⟩
def lw_privs_3 : List (MethodName × Nat) := [(⟨"NailedYearsModel", "day", "(I)V"⟩, 27), (⟨"NailedYearsModel", "goes", "(IZ)V"⟩, 27), (⟨"NailedYearsModel", "rusts", "(II)V"⟩, 27), (⟨"NailedYearsModel", "shakes", "(II)I"⟩, 27), (⟨"NailedYearsModel", "isBeside", "(II)Z"⟩, 27), (⟨"NailedYearsModel", "begins", "()V"⟩, 27), (⟨"NailedYearsModel", "rooms", "(I)I"⟩, 27), (⟨"NailedYearsModel", "isKept", "(III)Z"⟩, 27), (⟨"NailedYearsModel", "isSo", "(I)Z"⟩, 27), (⟨"NailedYearsModel", "out", "(I)I"⟩, 27), (⟨"NailedYearsModel", "loose", "(I)I"⟩, 27)]
theorem lw_r3 : ∀ q ∈ lw_privs_3, lw_okq q := List.forall_mem_cons.mpr ⟨lw_p32, List.forall_mem_cons.mpr ⟨lw_p33, List.forall_mem_cons.mpr ⟨lw_p34, List.forall_mem_cons.mpr ⟨lw_p35, List.forall_mem_cons.mpr ⟨lw_p36, List.forall_mem_cons.mpr ⟨lw_p37, List.forall_mem_cons.mpr ⟨lw_p38, List.forall_mem_cons.mpr ⟨lw_p39, List.forall_mem_cons.mpr ⟨lw_p40, List.forall_mem_cons.mpr ⟨lw_p41, List.forall_mem_cons.mpr ⟨lw_p42, fun _ h => absurd h List.not_mem_nil⟩⟩⟩⟩⟩⟩⟩⟩⟩⟩⟩
def lw_privs : List (MethodName × Nat) := lw_privs_1 ++ (lw_privs_2 ++ (lw_privs_3))
def lw_tbl : List Cond := k2_sels lw_privs ++ tables_1
theorem lw_privs_ok : ∀ q ∈ lw_privs, lw_okq q := by
  show ∀ q ∈ lw_privs_1 ++ (lw_privs_2 ++ (lw_privs_3)), lw_okq q
  exact List.forall_mem_append.mpr ⟨lw_r1, List.forall_mem_append.mpr ⟨lw_r2, lw_r3⟩⟩
/-! ===== BEGIN words of one list among another's, by their places ===== -/
theorem goodIn_r {big : List Cond} (ws : List Cond) (ps : List Nat) (hp : ws = ps.filterMap (fun i => big[i]?)) (h : ws.all goodWord = true) : GoodIn big ws := by
  intro w hw
  have h1 := List.all_eq_true.mp h w hw
  rw [hp] at hw
  obtain ⟨i, -, hi⟩ := List.mem_filterMap.mp hw
  have hm : w ∈ big := by first | exact List.mem_of_getElem? hi | exact List.getElem?_mem hi
  exact ⟨hm, good_of_word h1⟩
theorem goodIn_app {big a b : List Cond} (ha : GoodIn big a) (hb : GoodIn big b) : GoodIn big (a ++ b) := fun w h => (List.mem_append.mp h).elim (ha w) (hb w)
theorem goodIn_ca {big a b : List Cond} {c : Cond} (ha : GoodIn big (c :: a)) (hb : GoodIn big b) : GoodIn big (c :: (a ++ b)) := fun w h => (List.mem_cons.mp h).elim (fun e => ha w (List.mem_cons.mpr (Or.inl e))) (fun h => (List.mem_append.mp h).elim (fun h => ha w (List.mem_cons.mpr (Or.inr h))) (hb w))
theorem goodIn_sub {big ws : List Cond} (hm : ∀ w ∈ ws, w ∈ big) (h : ws.all goodWord = true) : GoodIn big ws := fun w hw => ⟨hm w hw, good_of_word (List.all_eq_true.mp h w hw)⟩
/-! ===== END ===== -/

/-! ===== BEGIN new T[n][m]: the outer array a place, the inner ones among the pooled ===== -/
/-- f, but v at every address of l -/
def vr_up {α : Type} (f : Nat → α) (l : List Nat) (v : α) : Nat → α := fun a => if a ∈ l then v else f a
theorem vr_up_in {α : Type} {f : Nat → α} {l : List Nat} {v : α} {a : Nat} (h : a ∈ l) : vr_up f l v a = v := if_pos h
theorem vr_up_ne {α : Type} {f : Nat → α} {l : List Nat} {v : α} {a : Nat} (h : a ∉ l) : vr_up f l v a = f a := if_neg h
theorem vr_rows {L l : List Nat} {f : Nat → va_E} {e : va_E} (h : ∀ a, a ∈ l → a ∉ L) : va_pl L f ++ l.map (fun a => (a, e)) = va_pl (L ++ l) (vr_up f l e) := by
  unfold va_pl
  rw [List.map_append]
  congr 1
  · apply List.map_congr_left
    intro a ha
    rw [vr_up_ne (fun q => h a q ha)]
  · apply List.map_congr_left
    intro a ha
    rw [vr_up_in ha]
theorem vr_lay {X rows : va_W} {x : Nat × va_E} {pl : va_W} {D : va_G} {cl : List vw_C} {H : Heap} (hP : va_P D cl (((X ++ pl) ++ [x]) ++ rows) H) : va_P D cl ((X ++ [x]) ++ (pl ++ rows)) H := by
  rw [List.append_assoc (X ++ pl)] at hP
  have h := va_P.swap hP
  rw [← List.append_assoc X] at h
  have h2 := va_P.swap h
  rw [List.append_assoc (X ++ [x])] at h2
  exact h2
theorem vr_layD {X rows : va_W} {x : Nat × va_E} {pl : va_W} {A : Nat → Prop} (hD : va_D A (((X ++ pl) ++ [x]) ++ rows)) : va_D A ((X ++ [x]) ++ (pl ++ rows)) := by
  rw [List.append_assoc (X ++ pl)] at hD
  have h := va_D.swap hD
  rw [← List.append_assoc X] at h
  have h2 := va_D.swap h
  rw [List.append_assoc (X ++ [x])] at h2
  exact h2
theorem vr_outer (c : ClassId) (N h0 : Nat) : ∀ i : Nat, Jvm.Free.Multi.outerC c N h0 i = arrV c N (fun j => va_rf (if j < i then some (h0 + 1 + j) else none))
  | 0 => by
    show ({ cls := c, slots := Array.replicate N .null, vm := .none } : Cell) = _
    rw [arrV_new]
    refine congrArg (arrV c N) (funext fun j => ?_)
    simp [va_rf]
  | i + 1 => by
    show (Jvm.Free.Multi.outerC c N h0 i).setSlot i (.ref (h0 + 1 + i)) = _
    rw [vr_outer c N h0 i, arrV_store]
    refine congrArg (arrV c N) (funext fun j => ?_)
    by_cases e : j = i
    · subst e
      simp [updV, va_rf]
    · by_cases h : j < i
      · simp [updV, e, h, Nat.lt_succ_of_lt h]
      · simp [updV, e, h, show ¬ j < i + 1 by omega]
/-! ===== END ===== -/

/-! ===== BEGIN printed: names, fields, word lists, decode rows ===== -/
def RX0 : String := "NailedYears$Gaps"
def TX0 : u_T := fun k => match k with
  | 0 => ("NailedYears$Gaps", "open", "[I", true)
  | _ => ("NailedYears$Gaps", "most", "[[I", true)
def tyX0 : Nat → FieldType := fun k => match k with
  | 0 => .array .int
  | _ => .array (.array .int)
abbrev wsX00 : List Cond := u_ws RX0 TX0 2
theorem nmX0 : ∀ a, a < 2 → ∀ b, b < 2 → a ≠ b → (TX0 a).2.1 ≠ (TX0 b).2.1 := by decide +kernel
theorem tyX0_ok : ∀ k, k < 2 → parseFieldDescriptor (TX0 k).2.2.1 = some (tyX0 k) := by decide +kernel
abbrev cX0_init : ByteArray := prog_2_method_1_code
def yX0_init : MethodName := ⟨RX0, "<init>", "()V"⟩
abbrev cX0_mostIn : ByteArray := prog_2_method_2_code
def yX0_mostIn : MethodName := ⟨RX0, "mostIn", "(LNailedYears$Wall;)I"⟩
abbrev cX0_lowestOf : ByteArray := prog_2_method_3_code
def yX0_lowestOf : MethodName := ⟨RX0, "lowestOf", "(ILNailedYears$Wall;)I"⟩
abbrev cX0_findOpen : ByteArray := prog_2_method_4_code
def yX0_findOpen : MethodName := ⟨RX0, "findOpen", "(LNailedYears$Wall;)V"⟩
abbrev cX0_closeRound : ByteArray := prog_2_method_5_code
def yX0_closeRound : MethodName := ⟨RX0, "closeRound", "(II)V"⟩
abbrev cX0_close : ByteArray := prog_2_method_6_code
def yX0_close : MethodName := ⟨RX0, "close", "(II)V"⟩
abbrev cX0_fillRow : ByteArray := prog_2_method_7_code
def yX0_fillRow : MethodName := ⟨RX0, "fillRow", "([II[I)V"⟩
abbrev cX0_mostWithout : ByteArray := prog_2_method_8_code
def yX0_mostWithout : MethodName := ⟨RX0, "mostWithout", "(I[I)I"⟩
abbrev cX0_lowestColumn : ByteArray := prog_2_method_9_code
def yX0_lowestColumn : MethodName := ⟨RX0, "lowestColumn", "(I[I)I"⟩
def RX1 : String := "NailedYears$Items"
def TX1 : u_T := fun k => match k with
  | 0 => ("NailedYears$Items", "numbers", "[I", true)
  | 1 => ("NailedYears$Items", "found", "I", false)
  | _ => ("NailedYears$Items", "onlyWalls", "Z", false)
def tyX1 : Nat → FieldType := fun k => match k with
  | 0 => .array .int
  | 1 => .int
  | _ => .boolean
abbrev wsX10 : List Cond := u_ws RX1 TX1 3
theorem nmX1 : ∀ a, a < 3 → ∀ b, b < 3 → a ≠ b → (TX1 a).2.1 ≠ (TX1 b).2.1 := by decide +kernel
theorem tyX1_ok : ∀ k, k < 3 → parseFieldDescriptor (TX1 k).2.2.1 = some (tyX1 k) := by decide +kernel
abbrev cX1_init : ByteArray := prog_3_method_1_code
def yX1_init : MethodName := ⟨RX1, "<init>", "()V"⟩
abbrev cX1_readInto : ByteArray := prog_3_method_2_code
def yX1_readInto : MethodName := ⟨RX1, "readInto", "(LNailedYears$Text;LNailedYears$Wall;)I"⟩
abbrev cX1_readNumbers : ByteArray := prog_3_method_3_code
def yX1_readNumbers : MethodName := ⟨RX1, "readNumbers", "(LNailedYears$Text;I)I"⟩
abbrev cX1_figure : ByteArray := prog_3_method_4_code
def yX1_figure : MethodName := ⟨RX1, "figure", "(I)I"⟩
abbrev cX1_number : ByteArray := prog_3_method_5_code
def yX1_number : MethodName := ⟨RX1, "number", "(I)I"⟩
abbrev cX1_takeItem : ByteArray := prog_3_method_6_code
def yX1_takeItem : MethodName := ⟨RX1, "takeItem", "(ILNailedYears$Wall;)Z"⟩
abbrev cX1_takeWall : ByteArray := prog_3_method_7_code
def yX1_takeWall : MethodName := ⟨RX1, "takeWall", "(LNailedYears$Wall;)Z"⟩
abbrev cX1_takeNail : ByteArray := prog_3_method_8_code
def yX1_takeNail : MethodName := ⟨RX1, "takeNail", "(LNailedYears$Wall;)Z"⟩
abbrev cX1_takeDamp : ByteArray := prog_3_method_9_code
def yX1_takeDamp : MethodName := ⟨RX1, "takeDamp", "(LNailedYears$Wall;)Z"⟩
abbrev cX1_takeBell : ByteArray := prog_3_method_10_code
def yX1_takeBell : MethodName := ⟨RX1, "takeBell", "(LNailedYears$Wall;)Z"⟩
def RX2 : String := "NailedYears$Measures"
def TX2 : u_T := fun k => match k with
  | 0 => ("NailedYears$Measures", "who", "[I", true)
  | 1 => ("NailedYears$Measures", "behindDays", "[I", true)
  | 2 => ("NailedYears$Measures", "depth", "[I", true)
  | _ => ("NailedYears$Measures", "size", "I", false)
def tyX2 : Nat → FieldType := fun k => match k with
  | 0 => .array .int
  | 1 => .array .int
  | 2 => .array .int
  | _ => .int
abbrev wsX20 : List Cond := u_ws RX2 TX2 4
theorem nmX2 : ∀ a, a < 4 → ∀ b, b < 4 → a ≠ b → (TX2 a).2.1 ≠ (TX2 b).2.1 := by decide +kernel
theorem tyX2_ok : ∀ k, k < 4 → parseFieldDescriptor (TX2 k).2.2.1 = some (tyX2 k) := by decide +kernel
abbrev cX2_init : ByteArray := prog_4_method_1_code
def yX2_init : MethodName := ⟨RX2, "<init>", "()V"⟩
abbrev cX2_isFull : ByteArray := prog_4_method_2_code
def yX2_isFull : MethodName := ⟨RX2, "isFull", "()Z"⟩
abbrev cX2_clear : ByteArray := prog_4_method_3_code
def yX2_clear : MethodName := ⟨RX2, "clear", "()V"⟩
abbrev cX2_add : ByteArray := prog_4_method_4_code
def yX2_add : MethodName := ⟨RX2, "add", "(III)V"⟩
abbrev cX2_lastDayOf : ByteArray := prog_4_method_5_code
def yX2_lastDayOf : MethodName := ⟨RX2, "lastDayOf", "(I)I"⟩
abbrev cX2_holdOn : ByteArray := prog_4_method_6_code
def yX2_holdOn : MethodName := ⟨RX2, "holdOn", "(IILNailedYears$Wall;)Z"⟩
def RX3 : String := "NailedYears$Nail"
def TX3 : u_T := fun k => match k with
  | 0 => ("NailedYears$Nail", "kind", "I", false)
  | 1 => ("NailedYears$Nail", "row", "I", false)
  | 2 => ("NailedYears$Nail", "column", "I", false)
  | 3 => ("NailedYears$Nail", "deep", "I", false)
  | 4 => ("NailedYears$Nail", "rust", "I", false)
  | 5 => ("NailedYears$Nail", "year", "I", false)
  | _ => ("NailedYears$Nail", "brought", "I", false)
def tyX3 : Nat → FieldType := fun k => match k with
  | 0 => .int
  | 1 => .int
  | 2 => .int
  | 3 => .int
  | 4 => .int
  | 5 => .int
  | _ => .int
abbrev wsX30 : List Cond := u_ws RX3 TX3 7
theorem nmX3 : ∀ a, a < 7 → ∀ b, b < 7 → a ≠ b → (TX3 a).2.1 ≠ (TX3 b).2.1 := by decide +kernel
theorem tyX3_ok : ∀ k, k < 7 → parseFieldDescriptor (TX3 k).2.2.1 = some (tyX3 k) := by decide +kernel
abbrev cX3_init : ByteArray := prog_5_method_1_code
def yX3_init : MethodName := ⟨RX3, "<init>", "()V"⟩
abbrev cX3_copy : ByteArray := prog_5_method_2_code
def yX3_copy : MethodName := ⟨RX3, "copy", "(LNailedYears$Nail;)V"⟩
abbrev cX3_isOut : ByteArray := prog_5_method_3_code
def yX3_isOut : MethodName := ⟨RX3, "isOut", "()Z"⟩
abbrev cX3_isLoose : ByteArray := prog_5_method_4_code
def yX3_isLoose : MethodName := ⟨RX3, "isLoose", "()Z"⟩
abbrev cX3_deepest : ByteArray := prog_5_method_5_code
def yX3_deepest : MethodName := ⟨RX3, "deepest", "()I"⟩
abbrev cX3_pullToLoose : ByteArray := prog_5_method_6_code
def yX3_pullToLoose : MethodName := ⟨RX3, "pullToLoose", "()I"⟩
abbrev cX3_lose : ByteArray := prog_5_method_7_code
def yX3_lose : MethodName := ⟨RX3, "lose", "(I)V"⟩
abbrev cX3_leaveIfOut : ByteArray := prog_5_method_8_code
def yX3_leaveIfOut : MethodName := ⟨RX3, "leaveIfOut", "()V"⟩
abbrev cX3_rustBy : ByteArray := prog_5_method_9_code
def yX3_rustBy : MethodName := ⟨RX3, "rustBy", "(I)V"⟩
abbrev cX3_shake : ByteArray := prog_5_method_10_code
def yX3_shake : MethodName := ⟨RX3, "shake", "()V"⟩
abbrev cX3_stepsTo : ByteArray := prog_5_method_11_code
def yX3_stepsTo : MethodName := ⟨RX3, "stepsTo", "(LNailedYears$Nail;)I"⟩
def RX4 : String := "NailedYears$Text"
def TX4 : u_T := fun k => match k with
  | 0 => ("NailedYears$Text", "letters", "[I", true)
  | _ => ("NailedYears$Text", "length", "I", false)
def tyX4 : Nat → FieldType := fun k => match k with
  | 0 => .array .int
  | _ => .int
abbrev wsX40 : List Cond := u_ws RX4 TX4 2
theorem nmX4 : ∀ a, a < 2 → ∀ b, b < 2 → a ≠ b → (TX4 a).2.1 ≠ (TX4 b).2.1 := by decide +kernel
theorem tyX4_ok : ∀ k, k < 2 → parseFieldDescriptor (TX4 k).2.2.1 = some (tyX4 k) := by decide +kernel
abbrev cX4_init : ByteArray := prog_6_method_1_code
def yX4_init : MethodName := ⟨RX4, "<init>", "()V"⟩
abbrev cX4_isFull : ByteArray := prog_6_method_2_code
def yX4_isFull : MethodName := ⟨RX4, "isFull", "()Z"⟩
abbrev cX4_add : ByteArray := prog_6_method_3_code
def yX4_add : MethodName := ⟨RX4, "add", "(I)V"⟩
abbrev cX4_letterAt : ByteArray := prog_6_method_4_code
def yX4_letterAt : MethodName := ⟨RX4, "letterAt", "(I)I"⟩
abbrev cX4_clear : ByteArray := prog_6_method_5_code
def yX4_clear : MethodName := ⟨RX4, "clear", "()V"⟩
def RX5 : String := "NailedYears$Wall"
def TX5 : u_T := fun k => match k with
  | 0 => ("NailedYears$Wall", "nails", "[LNailedYears$Nail;", true)
  | 1 => ("NailedYears$Wall", "nobody", "LNailedYears$Nail;", true)
  | 2 => ("NailedYears$Wall", "damps", "[I", true)
  | 3 => ("NailedYears$Wall", "rows", "I", false)
  | 4 => ("NailedYears$Wall", "columns", "I", false)
  | 5 => ("NailedYears$Wall", "bell", "I", false)
  | 6 => ("NailedYears$Wall", "days", "I", false)
  | _ => ("NailedYears$Wall", "size", "I", false)
def tyX5 : Nat → FieldType := fun k => match k with
  | 0 => .array (.object "NailedYears$Nail")
  | 1 => .object "NailedYears$Nail"
  | 2 => .array .int
  | 3 => .int
  | 4 => .int
  | 5 => .int
  | 6 => .int
  | _ => .int
abbrev wsX50 : List Cond := u_ws RX5 TX5 8
theorem nmX5 : ∀ a, a < 8 → ∀ b, b < 8 → a ≠ b → (TX5 a).2.1 ≠ (TX5 b).2.1 := by decide +kernel
theorem tyX5_ok : ∀ k, k < 8 → parseFieldDescriptor (TX5 k).2.2.1 = some (tyX5 k) := by decide +kernel
abbrev cX5_init : ByteArray := prog_7_method_1_code
def yX5_init : MethodName := ⟨RX5, "<init>", "()V"⟩
abbrev cX5_clear : ByteArray := prog_7_method_2_code
def yX5_clear : MethodName := ⟨RX5, "clear", "()V"⟩
abbrev cX5_copy : ByteArray := prog_7_method_3_code
def yX5_copy : MethodName := ⟨RX5, "copy", "(LNailedYears$Wall;)V"⟩
abbrev cX5_at : ByteArray := prog_7_method_4_code
def yX5_at : MethodName := ⟨RX5, "at", "(I)LNailedYears$Nail;"⟩
abbrev cX5_hasNail : ByteArray := prog_7_method_5_code
def yX5_hasNail : MethodName := ⟨RX5, "hasNail", "(I)Z"⟩
abbrev cX5_hasColumn : ByteArray := prog_7_method_6_code
def yX5_hasColumn : MethodName := ⟨RX5, "hasColumn", "(I)Z"⟩
abbrev cX5_hasCell : ByteArray := prog_7_method_7_code
def yX5_hasCell : MethodName := ⟨RX5, "hasCell", "(I)Z"⟩
abbrev cX5_isFull : ByteArray := prog_7_method_8_code
def yX5_isFull : MethodName := ⟨RX5, "isFull", "()Z"⟩
abbrev cX5_isFree : ByteArray := prog_7_method_9_code
def yX5_isFree : MethodName := ⟨RX5, "isFree", "(I)Z"⟩
abbrev cX5_cells : ByteArray := prog_7_method_10_code
def yX5_cells : MethodName := ⟨RX5, "cells", "()I"⟩
abbrev cX5_rowOf : ByteArray := prog_7_method_11_code
def yX5_rowOf : MethodName := ⟨RX5, "rowOf", "(I)I"⟩
abbrev cX5_columnOf : ByteArray := prog_7_method_12_code
def yX5_columnOf : MethodName := ⟨RX5, "columnOf", "(I)I"⟩
abbrev cX5_cellOf : ByteArray := prog_7_method_13_code
def yX5_cellOf : MethodName := ⟨RX5, "cellOf", "(LNailedYears$Nail;)I"⟩
abbrev cX5_dampOf : ByteArray := prog_7_method_14_code
def yX5_dampOf : MethodName := ⟨RX5, "dampOf", "(I)I"⟩
abbrev cX5_setDamp : ByteArray := prog_7_method_15_code
def yX5_setDamp : MethodName := ⟨RX5, "setDamp", "(II)V"⟩
abbrev cX5_add : ByteArray := prog_7_method_16_code
def yX5_add : MethodName := ⟨RX5, "add", "(IIII)V"⟩
abbrev cX5_nailIn : ByteArray := prog_7_method_17_code
def yX5_nailIn : MethodName := ⟨RX5, "nailIn", "(II)I"⟩
abbrev cX5_ringsNextDay : ByteArray := prog_7_method_18_code
def yX5_ringsNextDay : MethodName := ⟨RX5, "ringsNextDay", "()Z"⟩
abbrev cX5_passDay : ByteArray := prog_7_method_19_code
def yX5_passDay : MethodName := ⟨RX5, "passDay", "(Z)I"⟩
abbrev cX5_ringBell : ByteArray := prog_7_method_20_code
def yX5_ringBell : MethodName := ⟨RX5, "ringBell", "()V"⟩
abbrev cX5_leanRight : ByteArray := prog_7_method_21_code
def yX5_leanRight : MethodName := ⟨RX5, "leanRight", "(LNailedYears$Nail;)V"⟩
abbrev cX5_mixLoose : ByteArray := prog_7_method_22_code
def yX5_mixLoose : MethodName := ⟨RX5, "mixLoose", "()I"⟩
abbrev cX5_mixWithHigher : ByteArray := prog_7_method_23_code
def yX5_mixWithHigher : MethodName := ⟨RX5, "mixWithHigher", "(I)I"⟩
abbrev cX5_lowestLoose : ByteArray := prog_7_method_24_code
def yX5_lowestLoose : MethodName := ⟨RX5, "lowestLoose", "()I"⟩
abbrev cX5_howManyLoose : ByteArray := prog_7_method_25_code
def yX5_howManyLoose : MethodName := ⟨RX5, "howManyLoose", "()I"⟩
abbrev cX5_howManyOut : ByteArray := prog_7_method_26_code
def yX5_howManyOut : MethodName := ⟨RX5, "howManyOut", "()I"⟩
abbrev cX5_nailsOfColumn : ByteArray := prog_7_method_27_code
def yX5_nailsOfColumn : MethodName := ⟨RX5, "nailsOfColumn", "(I)I"⟩
abbrev cX5_broughtBy : ByteArray := prog_7_method_28_code
def yX5_broughtBy : MethodName := ⟨RX5, "broughtBy", "(I)I"⟩
abbrev cX5_hangingWith : ByteArray := prog_7_method_29_code
def yX5_hangingWith : MethodName := ⟨RX5, "hangingWith", "(I)I"⟩
abbrev cX5_touchesAny : ByteArray := prog_7_method_30_code
def yX5_touchesAny : MethodName := ⟨RX5, "touchesAny", "(II)Z"⟩
def RX6 : String := "NailedYears$Walls"
def TX6 : u_T := fun k => match k with
  | 0 => ("NailedYears$Walls", "walls", "[LNailedYears$Wall;", true)
  | _ => ("NailedYears$Walls", "size", "I", false)
def tyX6 : Nat → FieldType := fun k => match k with
  | 0 => .array (.object "NailedYears$Wall")
  | _ => .int
abbrev wsX60 : List Cond := u_ws RX6 TX6 2
theorem nmX6 : ∀ a, a < 2 → ∀ b, b < 2 → a ≠ b → (TX6 a).2.1 ≠ (TX6 b).2.1 := by decide +kernel
theorem tyX6_ok : ∀ k, k < 2 → parseFieldDescriptor (TX6 k).2.2.1 = some (tyX6 k) := by decide +kernel
abbrev cX6_init : ByteArray := prog_8_method_1_code
def yX6_init : MethodName := ⟨RX6, "<init>", "(I)V"⟩
abbrev cX6_isFull : ByteArray := prog_8_method_2_code
def yX6_isFull : MethodName := ⟨RX6, "isFull", "()Z"⟩
abbrev cX6_clear : ByteArray := prog_8_method_3_code
def yX6_clear : MethodName := ⟨RX6, "clear", "()V"⟩
abbrev cX6_at : ByteArray := prog_8_method_4_code
def yX6_at : MethodName := ⟨RX6, "at", "(I)LNailedYears$Wall;"⟩
abbrev cX6_put : ByteArray := prog_8_method_5_code
def yX6_put : MethodName := ⟨RX6, "put", "(LNailedYears$Wall;)V"⟩
abbrev cX6_takeInto : ByteArray := prog_8_method_6_code
def yX6_takeInto : MethodName := ⟨RX6, "takeInto", "(LNailedYears$Wall;)V"⟩
abbrev cX6_dropOldest : ByteArray := prog_8_method_7_code
def yX6_dropOldest : MethodName := ⟨RX6, "dropOldest", "()V"⟩
def RX7 : String := "NailedYears"
def TX7 : u_T := fun k => match k with
  | 0 => ("NailedYears", "text", "LNailedYears$Text;", true)
  | 1 => ("NailedYears", "items", "LNailedYears$Items;", true)
  | 2 => ("NailedYears", "now", "LNailedYears$Wall;", true)
  | 3 => ("NailedYears", "ahead", "LNailedYears$Wall;", true)
  | 4 => ("NailedYears", "past", "LNailedYears$Walls;", true)
  | 5 => ("NailedYears", "kept", "LNailedYears$Walls;", true)
  | 6 => ("NailedYears", "courses", "LNailedYears$Walls;", true)
  | 7 => ("NailedYears", "measured", "LNailedYears$Measures;", true)
  | _ => ("NailedYears", "gaps", "LNailedYears$Gaps;", true)
def tyX7 : Nat → FieldType := fun k => match k with
  | 0 => .object "NailedYears$Text"
  | 1 => .object "NailedYears$Items"
  | 2 => .object "NailedYears$Wall"
  | 3 => .object "NailedYears$Wall"
  | 4 => .object "NailedYears$Walls"
  | 5 => .object "NailedYears$Walls"
  | 6 => .object "NailedYears$Walls"
  | 7 => .object "NailedYears$Measures"
  | _ => .object "NailedYears$Gaps"
abbrev wsX70 : List Cond := u_ws RX7 TX7 9
theorem nmX7 : ∀ a, a < 9 → ∀ b, b < 9 → a ≠ b → (TX7 a).2.1 ≠ (TX7 b).2.1 := by decide +kernel
theorem tyX7_ok : ∀ k, k < 9 → parseFieldDescriptor (TX7 k).2.2.1 = some (tyX7 k) := by decide +kernel
abbrev cX7_init : ByteArray := prog_1_method_1_code
def yX7_init : MethodName := ⟨RX7, "<init>", "()V"⟩
abbrev cX7_write : ByteArray := prog_1_method_2_code
def yX7_write : MethodName := ⟨RX7, "write", "(I)I"⟩
abbrev cX7_wipe : ByteArray := prog_1_method_3_code
def yX7_wipe : MethodName := ⟨RX7, "wipe", "()I"⟩
abbrev cX7_fault : ByteArray := prog_1_method_4_code
def yX7_fault : MethodName := ⟨RX7, "fault", "()I"⟩
abbrev cX7_lay : ByteArray := prog_1_method_5_code
def yX7_lay : MethodName := ⟨RX7, "lay", "()I"⟩
abbrev cX7_nail : ByteArray := prog_1_method_6_code
def yX7_nail : MethodName := ⟨RX7, "nail", "(II)I"⟩
abbrev cX7_cell : ByteArray := prog_1_method_7_code
def yX7_cell : MethodName := ⟨RX7, "cell", "(I)I"⟩
abbrev cX7_damp : ByteArray := prog_1_method_8_code
def yX7_damp : MethodName := ⟨RX7, "damp", "(I)I"⟩
abbrev cX7_pass : ByteArray := prog_1_method_9_code
def yX7_pass : MethodName := ⟨RX7, "pass", "(I)I"⟩
abbrev cX7_hammer : ByteArray := prog_1_method_10_code
def yX7_hammer : MethodName := ⟨RX7, "hammer", "(I)I"⟩
abbrev cX7_oil : ByteArray := prog_1_method_11_code
def yX7_oil : MethodName := ⟨RX7, "oil", "(I)I"⟩
abbrev cX7_pull : ByteArray := prog_1_method_12_code
def yX7_pull : MethodName := ⟨RX7, "pull", "(II)I"⟩
abbrev cX7_drive : ByteArray := prog_1_method_13_code
def yX7_drive : MethodName := ⟨RX7, "drive", "(IIII)I"⟩
abbrev cX7_undo : ByteArray := prog_1_method_14_code
def yX7_undo : MethodName := ⟨RX7, "undo", "()I"⟩
abbrev cX7_behind : ByteArray := prog_1_method_15_code
def yX7_behind : MethodName := ⟨RX7, "behind", "(III)I"⟩
abbrev cX7_first : ByteArray := prog_1_method_16_code
def yX7_first : MethodName := ⟨RX7, "first", "(I)I"⟩
abbrev cX7_clash : ByteArray := prog_1_method_17_code
def yX7_clash : MethodName := ⟨RX7, "clash", "(I)I"⟩
abbrev cX7_room : ByteArray := prog_1_method_18_code
def yX7_room : MethodName := ⟨RX7, "room", "(I)I"⟩
abbrev cX7_blows : ByteArray := prog_1_method_19_code
def yX7_blows : MethodName := ⟨RX7, "blows", "(I)I"⟩
abbrev cX7_letOut : ByteArray := prog_1_method_20_code
def yX7_letOut : MethodName := ⟨RX7, "letOut", "(II)I"⟩
abbrev cX7_from : ByteArray := prog_1_method_21_code
def yX7_from : MethodName := ⟨RX7, "from", "(II)I"⟩
abbrev cX7_measure : ByteArray := prog_1_method_22_code
def yX7_measure : MethodName := ⟨RX7, "measure", "(III)I"⟩
abbrev cX7_forget : ByteArray := prog_1_method_23_code
def yX7_forget : MethodName := ⟨RX7, "forget", "()I"⟩
abbrev cX7_kinds : ByteArray := prog_1_method_24_code
def yX7_kinds : MethodName := ⟨RX7, "kinds", "(I)I"⟩
abbrev cX7_damps : ByteArray := prog_1_method_25_code
def yX7_damps : MethodName := ⟨RX7, "damps", "(I)I"⟩
abbrev cX7_shaken : ByteArray := prog_1_method_26_code
def yX7_shaken : MethodName := ⟨RX7, "shaken", "(IIII)I"⟩
abbrev cX7_century : ByteArray := prog_1_method_27_code
def yX7_century : MethodName := ⟨RX7, "century", "(III)I"⟩
abbrev cX7_keep : ByteArray := prog_1_method_28_code
def yX7_keep : MethodName := ⟨RX7, "keep", "()I"⟩
abbrev cX7_back : ByteArray := prog_1_method_29_code
def yX7_back : MethodName := ⟨RX7, "back", "()I"⟩
abbrev cX7_count : ByteArray := prog_1_method_30_code
def yX7_count : MethodName := ⟨RX7, "count", "(I)I"⟩
abbrev cX7_firstWall : ByteArray := prog_1_method_31_code
def yX7_firstWall : MethodName := ⟨RX7, "firstWall", "()LNailedYears$Wall;"⟩
abbrev cX7_isKind : ByteArray := prog_1_method_32_code
def yX7_isKind : MethodName := ⟨RX7, "isKind", "(I)Z"⟩
abbrev cX7_isDepth : ByteArray := prog_1_method_33_code
def yX7_isDepth : MethodName := ⟨RX7, "isDepth", "(II)Z"⟩
abbrev cX7_isYear : ByteArray := prog_1_method_34_code
def yX7_isYear : MethodName := ⟨RX7, "isYear", "(I)Z"⟩
abbrev cX7_isDeed : ByteArray := prog_1_method_35_code
def yX7_isDeed : MethodName := ⟨RX7, "isDeed", "(I)Z"⟩
abbrev cX7_isSide : ByteArray := prog_1_method_36_code
def yX7_isSide : MethodName := ⟨RX7, "isSide", "(I)Z"⟩
abbrev cX7_deepestOf : ByteArray := prog_1_method_37_code
def yX7_deepestOf : MethodName := ⟨RX7, "deepestOf", "(I)I"⟩
abbrev cX7_has : ByteArray := prog_1_method_38_code
def yX7_has : MethodName := ⟨RX7, "has", "(II)Z"⟩
abbrev cX7_lookAhead : ByteArray := prog_1_method_39_code
def yX7_lookAhead : MethodName := ⟨RX7, "lookAhead", "(I)V"⟩
abbrev cX7_lossOf : ByteArray := prog_1_method_40_code
def yX7_lossOf : MethodName := ⟨RX7, "lossOf", "(II)I"⟩
abbrev cX7_blowsAgainst : ByteArray := prog_1_method_41_code
def yX7_blowsAgainst : MethodName := ⟨RX7, "blowsAgainst", "(ILNailedYears$Nail;)I"⟩
abbrev cX7_comesAsMeasured : ByteArray := prog_1_method_42_code
def yX7_comesAsMeasured : MethodName := ⟨RX7, "comesAsMeasured", "(I)Z"⟩
abbrev cX7_firmCourses : ByteArray := prog_1_method_43_code
def yX7_firmCourses : MethodName := ⟨RX7, "firmCourses", "(LNailedYears$Walls;LNailedYears$Wall;III)I"⟩
abbrev cX7_tenTo : ByteArray := prog_1_method_44_code
def yX7_tenTo : MethodName := ⟨RX7, "tenTo", "(I)I"⟩
abbrev cX7_greatestCommon : ByteArray := prog_1_method_45_code
def yX7_greatestCommon : MethodName := ⟨RX7, "greatestCommon", "(II)I"⟩
abbrev cX7_draw : ByteArray := prog_1_method_46_code
def yX7_draw : MethodName := ⟨RX7, "draw", "(III)I"⟩
def RX8 : String := "NailedYearsModel"
def TX8 : u_T := fun k => match k with
  | 0 => ("NailedYearsModel", "rows", "I", false)
  | 1 => ("NailedYearsModel", "columns", "I", false)
  | 2 => ("NailedYearsModel", "bell", "I", false)
  | 3 => ("NailedYearsModel", "damp", "[I", true)
  | 4 => ("NailedYearsModel", "newRows", "I", false)
  | 5 => ("NailedYearsModel", "newColumns", "I", false)
  | 6 => ("NailedYearsModel", "newBell", "I", false)
  | 7 => ("NailedYearsModel", "newDamp", "[I", true)
  | 8 => ("NailedYearsModel", "isBegun", "Z", false)
  | 9 => ("NailedYearsModel", "slot", "[I", true)
  | 10 => ("NailedYearsModel", "acts", "I", false)
  | 11 => ("NailedYearsModel", "keeps", "I", false)
  | 12 => ("NailedYearsModel", "length", "I", false)
  | 13 => ("NailedYearsModel", "text", "[B", true)
  | 14 => ("NailedYearsModel", "at", "I", false)
  | 15 => ("NailedYearsModel", "begin", "I", false)
  | 16 => ("NailedYearsModel", "isWrong", "Z", false)
  | 17 => ("NailedYearsModel", "seens", "I", false)
  | 18 => ("NailedYearsModel", "sawWho", "[I", true)
  | 19 => ("NailedYearsModel", "sawTime", "[I", true)
  | 20 => ("NailedYearsModel", "sawDeep", "[I", true)
  | 21 => ("NailedYearsModel", "moist", "[I", true)
  | 22 => ("NailedYearsModel", "ahead", "[I", true)
  | 23 => ("NailedYearsModel", "mixed", "I", false)
  | 24 => ("NailedYearsModel", "free", "[I", true)
  | 25 => ("NailedYearsModel", "most", "[I", true)
  | _ => ("NailedYearsModel", "then", "[I", true)
def tyX8 : Nat → FieldType := fun k => match k with
  | 0 => .int
  | 1 => .int
  | 2 => .int
  | 3 => .array .int
  | 4 => .int
  | 5 => .int
  | 6 => .int
  | 7 => .array .int
  | 8 => .boolean
  | 9 => .array .int
  | 10 => .int
  | 11 => .int
  | 12 => .int
  | 13 => .array .byte
  | 14 => .int
  | 15 => .int
  | 16 => .boolean
  | 17 => .int
  | 18 => .array .int
  | 19 => .array .int
  | 20 => .array .int
  | 21 => .array .int
  | 22 => .array .int
  | 23 => .int
  | 24 => .array .int
  | 25 => .array .int
  | _ => .array .int
abbrev wsX80 : List Cond := u_ws RX8 TX8 27
theorem nmX8 : ∀ a, a < 27 → ∀ b, b < 27 → a ≠ b → (TX8 a).2.1 ≠ (TX8 b).2.1 := by decide +kernel
theorem tyX8_ok : ∀ k, k < 27 → parseFieldDescriptor (TX8 k).2.2.1 = some (tyX8 k) := by decide +kernel
abbrev cX8_init : ByteArray := prog_10_method_1_code
def yX8_init : MethodName := ⟨RX8, "<init>", "()V"⟩
abbrev cX8_in : ByteArray := prog_10_method_2_code
def yX8_in : MethodName := ⟨RX8, "in", "(JJJ)Z"⟩
abbrev cX8_has : ByteArray := prog_10_method_3_code
def yX8_has : MethodName := ⟨RX8, "has", "(II)Z"⟩
abbrev cX8_smaller : ByteArray := prog_10_method_4_code
def yX8_smaller : MethodName := ⟨RX8, "smaller", "(II)I"⟩
abbrev cX8_larger : ByteArray := prog_10_method_5_code
def yX8_larger : MethodName := ⟨RX8, "larger", "(II)I"⟩
abbrev cX8_adds : ByteArray := prog_10_method_6_code
def yX8_adds : MethodName := ⟨RX8, "adds", "(IIIII)V"⟩
abbrev cX8_copies : ByteArray := prog_10_method_7_code
def yX8_copies : MethodName := ⟨RX8, "copies", "(II)V"⟩
abbrev cX8_inside : ByteArray := prog_10_method_8_code
def yX8_inside : MethodName := ⟨RX8, "inside", "(II)I"⟩
abbrev cX8_write : ByteArray := prog_10_method_9_code
def yX8_write : MethodName := ⟨RX8, "write", "(I)I"⟩
abbrev cX8_wipe : ByteArray := prog_10_method_10_code
def yX8_wipe : MethodName := ⟨RX8, "wipe", "()I"⟩
abbrev cX8_next : ByteArray := prog_10_method_11_code
def yX8_next : MethodName := ⟨RX8, "next", "()I"⟩
abbrev cX8_number : ByteArray := prog_10_method_12_code
def yX8_number : MethodName := ⟨RX8, "number", "(II)I"⟩
abbrev cX8_more : ByteArray := prog_10_method_13_code
def yX8_more : MethodName := ⟨RX8, "more", "(II)I"⟩
abbrev cX8_item : ByteArray := prog_10_method_14_code
def yX8_item : MethodName := ⟨RX8, "item", "(I)V"⟩
abbrev cX8_reads : ByteArray := prog_10_method_15_code
def yX8_reads : MethodName := ⟨RX8, "reads", "()Z"⟩
abbrev cX8_fault : ByteArray := prog_10_method_16_code
def yX8_fault : MethodName := ⟨RX8, "fault", "()I"⟩
abbrev cX8_lay : ByteArray := prog_10_method_17_code
def yX8_lay : MethodName := ⟨RX8, "lay", "()I"⟩
abbrev cX8_isNail : ByteArray := prog_10_method_18_code
def yX8_isNail : MethodName := ⟨RX8, "isNail", "(I)Z"⟩
abbrev cX8_isCell : ByteArray := prog_10_method_19_code
def yX8_isCell : MethodName := ⟨RX8, "isCell", "(I)Z"⟩
abbrev cX8_isLoose : ByteArray := prog_10_method_20_code
def yX8_isLoose : MethodName := ⟨RX8, "isLoose", "(II)Z"⟩
abbrev cX8_nail : ByteArray := prog_10_method_21_code
def yX8_nail : MethodName := ⟨RX8, "nail", "(II)I"⟩
abbrev cX8_cell : ByteArray := prog_10_method_22_code
def yX8_cell : MethodName := ⟨RX8, "cell", "(I)I"⟩
abbrev cX8_damp : ByteArray := prog_10_method_23_code
def yX8_damp : MethodName := ⟨RX8, "damp", "(I)I"⟩
abbrev cX8_moistens : ByteArray := prog_10_method_24_code
def yX8_moistens : MethodName := ⟨RX8, "moistens", "()V"⟩
abbrev cX8_apart : ByteArray := prog_10_method_25_code
def yX8_apart : MethodName := ⟨RX8, "apart", "(II)I"⟩
abbrev cX8_isBeside : ByteArray := prog_10_method_26_code
def yX8_isBeside : MethodName := ⟨RX8, "isBeside", "(II)Z"⟩
abbrev cX8_rusts : ByteArray := prog_10_method_27_code
def yX8_rusts : MethodName := ⟨RX8, "rusts", "(II)V"⟩
abbrev cX8_shakes : ByteArray := prog_10_method_28_code
def yX8_shakes : MethodName := ⟨RX8, "shakes", "(II)I"⟩
abbrev cX8_goes : ByteArray := prog_10_method_29_code
def yX8_goes : MethodName := ⟨RX8, "goes", "(IZ)V"⟩
abbrev cX8_day : ByteArray := prog_10_method_30_code
def yX8_day : MethodName := ⟨RX8, "day", "(I)V"⟩
abbrev cX8_begins : ByteArray := prog_10_method_31_code
def yX8_begins : MethodName := ⟨RX8, "begins", "()V"⟩
abbrev cX8_known : ByteArray := prog_10_method_32_code
def yX8_known : MethodName := ⟨RX8, "known", "()V"⟩
abbrev cX8_pass : ByteArray := prog_10_method_33_code
def yX8_pass : MethodName := ⟨RX8, "pass", "(I)I"⟩
abbrev cX8_hammered : ByteArray := prog_10_method_34_code
def yX8_hammered : MethodName := ⟨RX8, "hammered", "(II)I"⟩
abbrev cX8_hammer : ByteArray := prog_10_method_35_code
def yX8_hammer : MethodName := ⟨RX8, "hammer", "(I)I"⟩
abbrev cX8_oil : ByteArray := prog_10_method_36_code
def yX8_oil : MethodName := ⟨RX8, "oil", "(I)I"⟩
abbrev cX8_pull : ByteArray := prog_10_method_37_code
def yX8_pull : MethodName := ⟨RX8, "pull", "(II)I"⟩
abbrev cX8_drive : ByteArray := prog_10_method_38_code
def yX8_drive : MethodName := ⟨RX8, "drive", "(IIII)I"⟩
abbrev cX8_undo : ByteArray := prog_10_method_39_code
def yX8_undo : MethodName := ⟨RX8, "undo", "()I"⟩
abbrev cX8_behind : ByteArray := prog_10_method_40_code
def yX8_behind : MethodName := ⟨RX8, "behind", "(III)I"⟩
abbrev cX8_first : ByteArray := prog_10_method_41_code
def yX8_first : MethodName := ⟨RX8, "first", "(I)I"⟩
abbrev cX8_clash : ByteArray := prog_10_method_42_code
def yX8_clash : MethodName := ⟨RX8, "clash", "(I)I"⟩
abbrev cX8_rooms : ByteArray := prog_10_method_43_code
def yX8_rooms : MethodName := ⟨RX8, "rooms", "(I)I"⟩
abbrev cX8_room : ByteArray := prog_10_method_44_code
def yX8_room : MethodName := ⟨RX8, "room", "(I)I"⟩
abbrev cX8_isKept : ByteArray := prog_10_method_45_code
def yX8_isKept : MethodName := ⟨RX8, "isKept", "(III)Z"⟩
abbrev cX8_blows : ByteArray := prog_10_method_46_code
def yX8_blows : MethodName := ⟨RX8, "blows", "(I)I"⟩
abbrev cX8_letOut : ByteArray := prog_10_method_47_code
def yX8_letOut : MethodName := ⟨RX8, "letOut", "(II)I"⟩
abbrev cX8_from : ByteArray := prog_10_method_48_code
def yX8_from : MethodName := ⟨RX8, "from", "(II)I"⟩
abbrev cX8_measure : ByteArray := prog_10_method_49_code
def yX8_measure : MethodName := ⟨RX8, "measure", "(III)I"⟩
abbrev cX8_forget : ByteArray := prog_10_method_50_code
def yX8_forget : MethodName := ⟨RX8, "forget", "()I"⟩
abbrev cX8_isSo : ByteArray := prog_10_method_51_code
def yX8_isSo : MethodName := ⟨RX8, "isSo", "(I)Z"⟩
abbrev cX8_kinds : ByteArray := prog_10_method_52_code
def yX8_kinds : MethodName := ⟨RX8, "kinds", "(I)I"⟩
abbrev cX8_damps : ByteArray := prog_10_method_53_code
def yX8_damps : MethodName := ⟨RX8, "damps", "(I)I"⟩
abbrev cX8_shaken : ByteArray := prog_10_method_54_code
def yX8_shaken : MethodName := ⟨RX8, "shaken", "(IIII)I"⟩
abbrev cX8_draw : ByteArray := prog_10_method_55_code
def yX8_draw : MethodName := ⟨RX8, "draw", "(III)I"⟩
abbrev cX8_out : ByteArray := prog_10_method_56_code
def yX8_out : MethodName := ⟨RX8, "out", "(I)I"⟩
abbrev cX8_loose : ByteArray := prog_10_method_57_code
def yX8_loose : MethodName := ⟨RX8, "loose", "(I)I"⟩
abbrev cX8_century : ByteArray := prog_10_method_58_code
def yX8_century : MethodName := ⟨RX8, "century", "(III)I"⟩
abbrev cX8_keep : ByteArray := prog_10_method_59_code
def yX8_keep : MethodName := ⟨RX8, "keep", "()I"⟩
abbrev cX8_back : ByteArray := prog_10_method_60_code
def yX8_back : MethodName := ⟨RX8, "back", "()I"⟩
abbrev cX8_count : ByteArray := prog_10_method_61_code
def yX8_count : MethodName := ⟨RX8, "count", "(I)I"⟩
def RJ6 : String := "java/lang/Integer"
def TJ6 : u_T := fun k => match k with
  | _ => ("", "", "", false)
def tyJ6 : Nat → FieldType := fun k => match k with
  | _ => .int
abbrev wsJ60 : List Cond := u_ws RJ6 TJ6 0
theorem nmJ6 : ∀ a, a < 0 → ∀ b, b < 0 → a ≠ b → (TJ6 a).2.1 ≠ (TJ6 b).2.1 := by decide +kernel
theorem tyJ6_ok : ∀ k, k < 0 → parseFieldDescriptor (TJ6 k).2.2.1 = some (tyJ6 k) := by decide +kernel
abbrev cJ6_numberOfTrailingZeros_0f7a4 : ByteArray := prog_11_method_48_code
def yJ6_numberOfTrailingZeros_0f7a4 : MethodName := ⟨RJ6, "numberOfTrailingZeros", "(I)I"⟩
abbrev cJ6_bitCount_0f7a4 : ByteArray := prog_11_method_49_code
def yJ6_bitCount_0f7a4 : MethodName := ⟨RJ6, "bitCount", "(I)I"⟩
def RJ9 : String := "java/lang/Math"
def TJ9 : u_T := fun k => match k with
  | _ => ("", "", "", false)
def tyJ9 : Nat → FieldType := fun k => match k with
  | _ => .int
abbrev wsJ90 : List Cond := u_ws RJ9 TJ9 0
theorem nmJ9 : ∀ a, a < 0 → ∀ b, b < 0 → a ≠ b → (TJ9 a).2.1 ≠ (TJ9 b).2.1 := by decide +kernel
theorem tyJ9_ok : ∀ k, k < 0 → parseFieldDescriptor (TJ9 k).2.2.1 = some (tyJ9 k) := by decide +kernel
abbrev cJ9_abs_0f7a4 : ByteArray := prog_12_method_59_code
def yJ9_abs_0f7a4 : MethodName := ⟨RJ9, "abs", "(I)I"⟩
abbrev cJ9_max_7cf53 : ByteArray := prog_12_method_65_code
def yJ9_max_7cf53 : MethodName := ⟨RJ9, "max", "(II)I"⟩
abbrev cJ9_min_7cf53 : ByteArray := prog_12_method_69_code
def yJ9_min_7cf53 : MethodName := ⟨RJ9, "min", "(II)I"⟩
def RJ0 : String := "java/lang/String"
def TJ0 : u_T := fun k => match k with
  | _ => ("", "", "", false)
def tyJ0 : Nat → FieldType := fun k => match k with
  | _ => .int
abbrev wsJ00 : List Cond := u_ws RJ0 TJ0 0
theorem nmJ0 : ∀ a, a < 0 → ∀ b, b < 0 → a ≠ b → (TJ0 a).2.1 ≠ (TJ0 b).2.1 := by decide +kernel
theorem tyJ0_ok : ∀ k, k < 0 → parseFieldDescriptor (TJ0 k).2.2.1 = some (tyJ0 k) := by decide +kernel
abbrev cJ0_length_8abf5 : ByteArray := prog_13_method_54_code
def yJ0_length_8abf5 : MethodName := ⟨RJ0, "length", "()I"⟩
abbrev cJ0_charAt_5068e : ByteArray := prog_13_method_56_code
def yJ0_charAt_5068e : MethodName := ⟨RJ0, "charAt", "(I)C"⟩
abbrev cJ0_coder_7d493 : ByteArray := prog_13_method_152_code
def yJ0_coder_7d493 : MethodName := ⟨RJ0, "coder", "()B"⟩
abbrev cJ0_isLatin1_aae02 : ByteArray := prog_13_method_154_code
def yJ0_isLatin1_aae02 : MethodName := ⟨RJ0, "isLatin1", "()Z"⟩
abbrev cJ0_checkIndex_df160 : ByteArray := prog_13_method_155_code
def yJ0_checkIndex_df160 : MethodName := ⟨RJ0, "checkIndex", "(II)V"⟩
def RJ1 : String := "java/lang/StringLatin1"
def TJ1 : u_T := fun k => match k with
  | _ => ("", "", "", false)
def tyJ1 : Nat → FieldType := fun k => match k with
  | _ => .int
abbrev wsJ10 : List Cond := u_ws RJ1 TJ1 0
theorem nmJ1 : ∀ a, a < 0 → ∀ b, b < 0 → a ≠ b → (TJ1 a).2.1 ≠ (TJ1 b).2.1 := by decide +kernel
theorem tyJ1_ok : ∀ k, k < 0 → parseFieldDescriptor (TJ1 k).2.2.1 = some (tyJ1 k) := by decide +kernel
abbrev cJ1_charAt_3b067 : ByteArray := prog_14_method_2_code
def yJ1_charAt_3b067 : MethodName := ⟨RJ1, "charAt", "([BI)C"⟩
def RJ2 : String := "java/lang/StringUTF16"
def TJ2 : u_T := fun k => match k with
  | _ => ("", "", "", false)
def tyJ2 : Nat → FieldType := fun k => match k with
  | _ => .int
abbrev wsJ20 : List Cond := u_ws RJ2 TJ2 0
theorem nmJ2 : ∀ a, a < 0 → ∀ b, b < 0 → a ≠ b → (TJ2 a).2.1 ≠ (TJ2 b).2.1 := by decide +kernel
theorem tyJ2_ok : ∀ k, k < 0 → parseFieldDescriptor (TJ2 k).2.2.1 = some (tyJ2 k) := by decide +kernel
abbrev cJ2_getChar_3b067 : ByteArray := prog_15_method_5_code
def yJ2_getChar_3b067 : MethodName := ⟨RJ2, "getChar", "([BI)C"⟩
abbrev cJ2_length_9d52b : ByteArray := prog_15_method_6_code
def yJ2_length_9d52b : MethodName := ⟨RJ2, "length", "([B)I"⟩
abbrev cJ2_charAt_3b067 : ByteArray := prog_15_method_83_code
def yJ2_charAt_3b067 : MethodName := ⟨RJ2, "charAt", "([BI)C"⟩
abbrev cJ2_checkIndex_2214a : ByteArray := prog_15_method_91_code
def yJ2_checkIndex_2214a : MethodName := ⟨RJ2, "checkIndex", "(I[B)V"⟩
def RJ3 : String := "jdk/internal/util/Preconditions"
def TJ3 : u_T := fun k => match k with
  | _ => ("", "", "", false)
def tyJ3 : Nat → FieldType := fun k => match k with
  | _ => .int
abbrev wsJ30 : List Cond := u_ws RJ3 TJ3 0
theorem nmJ3 : ∀ a, a < 0 → ∀ b, b < 0 → a ≠ b → (TJ3 a).2.1 ≠ (TJ3 b).2.1 := by decide +kernel
theorem tyJ3_ok : ∀ k, k < 0 → parseFieldDescriptor (TJ3 k).2.2.1 = some (tyJ3 k) := by decide +kernel
abbrev cJ3_checkIndex_8e157 : ByteArray := prog_16_method_11_code
def yJ3_checkIndex_8e157 : MethodName := ⟨RJ3, "checkIndex", "(IILjava/util/function/BiFunction;)I"⟩
def RL : String := "NailedYearsLaw"
abbrev cL_law : ByteArray := code
def yL_law : MethodName := ⟨RL, "law", "([I)Z"⟩
abbrev vwCl : List vw_C := [(RX0, TX0, 2), (RX1, TX1, 3), (RX2, TX2, 4), (RX3, TX3, 7), (RX4, TX4, 2), (RX5, TX5, 8), (RX6, TX6, 2), (RX7, TX7, 9), (RX8, TX8, 27)]
