section
-- ===== PART A: goes FIRST, ahead of the names: the tables' words, and 'selects' of the private methods out of them =====
/-- a private method of a class that the tables say can be made, by its rows of tables_1 -/
def lw_okq (q : MethodName × Nat) : Prop := (q.1.cls ≠ "java/lang/invoke/MethodHandle" ∧ q.1.cls ≠ "java/lang/invoke/VarHandle") ∧ Cond.instantiable q.1.cls q.2 ∈ tables_1 ∧ Cond.privateMethod q.1 ∈ tables_1 ∧ Cond.instanceMethod q.1 ∈ tables_1
theorem lw_p0 : lw_okq (⟨"WallsOfPrisoners$Reader", "advance", "()V"⟩, 7) := ⟨⟨by decide +kernel, by decide +kernel⟩, List.mem_of_getElem? (i := 48) (by decide +kernel), List.mem_of_getElem? (i := 230) (by decide +kernel), List.mem_of_getElem? (i := 231) (by decide +kernel)⟩
theorem lw_p1 : lw_okq (⟨"WallsOfPrisoners$Reader", "letterAt", "(I)I"⟩, 7) := ⟨⟨by decide +kernel, by decide +kernel⟩, List.mem_of_getElem? (i := 48) (by decide +kernel), List.mem_of_getElem? (i := 234) (by decide +kernel), List.mem_of_getElem? (i := 235) (by decide +kernel)⟩
theorem lw_p2 : lw_okq (⟨"WallsOfPrisoners$Reader", "readDigits", "()V"⟩, 7) := ⟨⟨by decide +kernel, by decide +kernel⟩, List.mem_of_getElem? (i := 48) (by decide +kernel), List.mem_of_getElem? (i := 241) (by decide +kernel), List.mem_of_getElem? (i := 242) (by decide +kernel)⟩
theorem lw_p3 : lw_okq (⟨"WallsOfPrisoners$Reader", "readWord", "()V"⟩, 7) := ⟨⟨by decide +kernel, by decide +kernel⟩, List.mem_of_getElem? (i := 48) (by decide +kernel), List.mem_of_getElem? (i := 248) (by decide +kernel), List.mem_of_getElem? (i := 249) (by decide +kernel)⟩
theorem lw_p4 : lw_okq (⟨"WallsOfPrisoners$Reader", "isHere", "(Ljava/lang/String;)Z"⟩, 7) := ⟨⟨by decide +kernel, by decide +kernel⟩, List.mem_of_getElem? (i := 48) (by decide +kernel), List.mem_of_getElem? (i := 267) (by decide +kernel), List.mem_of_getElem? (i := 268) (by decide +kernel)⟩
theorem lw_p5 : lw_okq (⟨"WallsOfPrisoners$Reader", "readPart", "(I)Z"⟩, 7) := ⟨⟨by decide +kernel, by decide +kernel⟩, List.mem_of_getElem? (i := 48) (by decide +kernel), List.mem_of_getElem? (i := 276) (by decide +kernel), List.mem_of_getElem? (i := 277) (by decide +kernel)⟩
theorem lw_p6 : lw_okq (⟨"WallsOfPrisoners$Reader", "readEither", "(I)Z"⟩, 7) := ⟨⟨by decide +kernel, by decide +kernel⟩, List.mem_of_getElem? (i := 48) (by decide +kernel), List.mem_of_getElem? (i := 280) (by decide +kernel), List.mem_of_getElem? (i := 281) (by decide +kernel)⟩
theorem lw_p7 : lw_okq (⟨"WallsOfPrisoners$Reader", "readBoth", "(I)Z"⟩, 7) := ⟨⟨by decide +kernel, by decide +kernel⟩, List.mem_of_getElem? (i := 48) (by decide +kernel), List.mem_of_getElem? (i := 284) (by decide +kernel), List.mem_of_getElem? (i := 285) (by decide +kernel)⟩
theorem lw_p8 : lw_okq (⟨"WallsOfPrisoners$Reader", "readDenial", "(I)Z"⟩, 7) := ⟨⟨by decide +kernel, by decide +kernel⟩, List.mem_of_getElem? (i := 48) (by decide +kernel), List.mem_of_getElem? (i := 288) (by decide +kernel), List.mem_of_getElem? (i := 289) (by decide +kernel)⟩
theorem lw_p9 : lw_okq (⟨"WallsOfPrisoners$Reader", "readComparison", "(I)Z"⟩, 7) := ⟨⟨by decide +kernel, by decide +kernel⟩, List.mem_of_getElem? (i := 48) (by decide +kernel), List.mem_of_getElem? (i := 292) (by decide +kernel), List.mem_of_getElem? (i := 293) (by decide +kernel)⟩
theorem lw_p10 : lw_okq (⟨"WallsOfPrisoners$Reader", "readSum", "(I)Z"⟩, 7) := ⟨⟨by decide +kernel, by decide +kernel⟩, List.mem_of_getElem? (i := 48) (by decide +kernel), List.mem_of_getElem? (i := 296) (by decide +kernel), List.mem_of_getElem? (i := 297) (by decide +kernel)⟩
theorem lw_p11 : lw_okq (⟨"WallsOfPrisoners$Reader", "readTerm", "(I)Z"⟩, 7) := ⟨⟨by decide +kernel, by decide +kernel⟩, List.mem_of_getElem? (i := 48) (by decide +kernel), List.mem_of_getElem? (i := 300) (by decide +kernel), List.mem_of_getElem? (i := 301) (by decide +kernel)⟩
theorem lw_p12 : lw_okq (⟨"WallsOfPrisoners$Reader", "readOne", "(I)Z"⟩, 7) := ⟨⟨by decide +kernel, by decide +kernel⟩, List.mem_of_getElem? (i := 48) (by decide +kernel), List.mem_of_getElem? (i := 304) (by decide +kernel), List.mem_of_getElem? (i := 305) (by decide +kernel)⟩
theorem lw_p13 : lw_okq (⟨"WallsOfPrisoners$Reader", "readNegation", "(I)Z"⟩, 7) := ⟨⟨by decide +kernel, by decide +kernel⟩, List.mem_of_getElem? (i := 48) (by decide +kernel), List.mem_of_getElem? (i := 312) (by decide +kernel), List.mem_of_getElem? (i := 313) (by decide +kernel)⟩
theorem lw_p14 : lw_okq (⟨"WallsOfPrisoners$Reader", "readBrackets", "(I)Z"⟩, 7) := ⟨⟨by decide +kernel, by decide +kernel⟩, List.mem_of_getElem? (i := 48) (by decide +kernel), List.mem_of_getElem? (i := 316) (by decide +kernel), List.mem_of_getElem? (i := 317) (by decide +kernel)⟩
theorem lw_p15 : lw_okq (⟨"WallsOfPrisoners$Marsh", "asBrother", "(II)I"⟩, 10) := ⟨⟨by decide +kernel, by decide +kernel⟩, List.mem_of_getElem? (i := 77) (by decide +kernel), List.mem_of_getElem? (i := 432) (by decide +kernel), List.mem_of_getElem? (i := 433) (by decide +kernel)⟩
def lw_privs_1 : List (MethodName × Nat) := [(⟨"WallsOfPrisoners$Reader", "advance", "()V"⟩, 7), (⟨"WallsOfPrisoners$Reader", "letterAt", "(I)I"⟩, 7), (⟨"WallsOfPrisoners$Reader", "readDigits", "()V"⟩, 7), (⟨"WallsOfPrisoners$Reader", "readWord", "()V"⟩, 7), (⟨"WallsOfPrisoners$Reader", "isHere", "(Ljava/lang/String;)Z"⟩, 7), (⟨"WallsOfPrisoners$Reader", "readPart", "(I)Z"⟩, 7), (⟨"WallsOfPrisoners$Reader", "readEither", "(I)Z"⟩, 7), (⟨"WallsOfPrisoners$Reader", "readBoth", "(I)Z"⟩, 7), (⟨"WallsOfPrisoners$Reader", "readDenial", "(I)Z"⟩, 7), (⟨"WallsOfPrisoners$Reader", "readComparison", "(I)Z"⟩, 7), (⟨"WallsOfPrisoners$Reader", "readSum", "(I)Z"⟩, 7), (⟨"WallsOfPrisoners$Reader", "readTerm", "(I)Z"⟩, 7), (⟨"WallsOfPrisoners$Reader", "readOne", "(I)Z"⟩, 7), (⟨"WallsOfPrisoners$Reader", "readNegation", "(I)Z"⟩, 7), (⟨"WallsOfPrisoners$Reader", "readBrackets", "(I)Z"⟩, 7), (⟨"WallsOfPrisoners$Marsh", "asBrother", "(II)I"⟩, 10)]
theorem lw_r1 : ∀ q ∈ lw_privs_1, lw_okq q := List.forall_mem_cons.mpr ⟨lw_p0, List.forall_mem_cons.mpr ⟨lw_p1, List.forall_mem_cons.mpr ⟨lw_p2, List.forall_mem_cons.mpr ⟨lw_p3, List.forall_mem_cons.mpr ⟨lw_p4, List.forall_mem_cons.mpr ⟨lw_p5, List.forall_mem_cons.mpr ⟨lw_p6, List.forall_mem_cons.mpr ⟨lw_p7, List.forall_mem_cons.mpr ⟨lw_p8, List.forall_mem_cons.mpr ⟨lw_p9, List.forall_mem_cons.mpr ⟨lw_p10, List.forall_mem_cons.mpr ⟨lw_p11, List.forall_mem_cons.mpr ⟨lw_p12, List.forall_mem_cons.mpr ⟨lw_p13, List.forall_mem_cons.mpr ⟨lw_p14, List.forall_mem_cons.mpr ⟨lw_p15, fun _ h => absurd h List.not_mem_nil⟩⟩⟩⟩⟩⟩⟩⟩⟩⟩⟩⟩⟩⟩⟩⟩
theorem lw_p16 : lw_okq (⟨"WallsOfPrisoners$Orders", "seekFrom", "(III)V"⟩, 6) := ⟨⟨by decide +kernel, by decide +kernel⟩, List.mem_of_getElem? (i := 121) (by decide +kernel), List.mem_of_getElem? (i := 553) (by decide +kernel), List.mem_of_getElem? (i := 554) (by decide +kernel)⟩
theorem lw_p17 : lw_okq (⟨"WallsOfPrisoners$Orders", "between", "(II)I"⟩, 6) := ⟨⟨by decide +kernel, by decide +kernel⟩, List.mem_of_getElem? (i := 121) (by decide +kernel), List.mem_of_getElem? (i := 557) (by decide +kernel), List.mem_of_getElem? (i := 558) (by decide +kernel)⟩
theorem lw_p18 : lw_okq (⟨"WallsOfPrisoners$Orders", "closesBy", "(I)Z"⟩, 6) := ⟨⟨by decide +kernel, by decide +kernel⟩, List.mem_of_getElem? (i := 121) (by decide +kernel), List.mem_of_getElem? (i := 581) (by decide +kernel), List.mem_of_getElem? (i := 582) (by decide +kernel)⟩
theorem lw_p19 : lw_okq (⟨"WallsOfPrisoners$Orders", "weakestNow", "()I"⟩, 6) := ⟨⟨by decide +kernel, by decide +kernel⟩, List.mem_of_getElem? (i := 121) (by decide +kernel), List.mem_of_getElem? (i := 585) (by decide +kernel), List.mem_of_getElem? (i := 586) (by decide +kernel)⟩
theorem lw_p20 : lw_okq (⟨"WallsOfPrisoners$Orders", "change", "(II)V"⟩, 6) := ⟨⟨by decide +kernel, by decide +kernel⟩, List.mem_of_getElem? (i := 121) (by decide +kernel), List.mem_of_getElem? (i := 589) (by decide +kernel), List.mem_of_getElem? (i := 590) (by decide +kernel)⟩
theorem lw_p21 : lw_okq (⟨"WallsOfPrisoners", "readBack", "(LWallsOfPrisoners$Sheet;II)I"⟩, 8) := ⟨⟨by decide +kernel, by decide +kernel⟩, List.mem_of_getElem? (i := 15) (by decide +kernel), List.mem_of_getElem? (i := 612) (by decide +kernel), List.mem_of_getElem? (i := 613) (by decide +kernel)⟩
theorem lw_p22 : lw_okq (⟨"WallsOfPrisonersModel", "spell", "(IIIIIIIII)V"⟩, 44) := ⟨⟨by decide +kernel, by decide +kernel⟩, List.mem_of_getElem? (i := 687) (by decide +kernel), List.mem_of_getElem? (i := 693) (by decide +kernel), List.mem_of_getElem? (i := 694) (by decide +kernel)⟩
theorem lw_p23 : lw_okq (⟨"WallsOfPrisonersModel", "isOf", "(II)Z"⟩, 44) := ⟨⟨by decide +kernel, by decide +kernel⟩, List.mem_of_getElem? (i := 687) (by decide +kernel), List.mem_of_getElem? (i := 838) (by decide +kernel), List.mem_of_getElem? (i := 839) (by decide +kernel)⟩
theorem lw_p24 : lw_okq (⟨"WallsOfPrisonersModel", "isOne", "(I)Z"⟩, 44) := ⟨⟨by decide +kernel, by decide +kernel⟩, List.mem_of_getElem? (i := 687) (by decide +kernel), List.mem_of_getElem? (i := 842) (by decide +kernel), List.mem_of_getElem? (i := 843) (by decide +kernel)⟩
theorem lw_p25 : lw_okq (⟨"WallsOfPrisonersModel", "isPlace", "(I)Z"⟩, 44) := ⟨⟨by decide +kernel, by decide +kernel⟩, List.mem_of_getElem? (i := 687) (by decide +kernel), List.mem_of_getElem? (i := 846) (by decide +kernel), List.mem_of_getElem? (i := 847) (by decide +kernel)⟩
theorem lw_p26 : lw_okq (⟨"WallsOfPrisonersModel", "placeOf", "(I)I"⟩, 44) := ⟨⟨by decide +kernel, by decide +kernel⟩, List.mem_of_getElem? (i := 687) (by decide +kernel), List.mem_of_getElem? (i := 858) (by decide +kernel), List.mem_of_getElem? (i := 859) (by decide +kernel)⟩
theorem lw_p27 : lw_okq (⟨"WallsOfPrisonersModel", "spentOf", "(I)I"⟩, 44) := ⟨⟨by decide +kernel, by decide +kernel⟩, List.mem_of_getElem? (i := 687) (by decide +kernel), List.mem_of_getElem? (i := 862) (by decide +kernel), List.mem_of_getElem? (i := 863) (by decide +kernel)⟩
theorem lw_p28 : lw_okq (⟨"WallsOfPrisonersModel", "says", "(III)I"⟩, 44) := ⟨⟨by decide +kernel, by decide +kernel⟩, List.mem_of_getElem? (i := 687) (by decide +kernel), List.mem_of_getElem? (i := 866) (by decide +kernel), List.mem_of_getElem? (i := 867) (by decide +kernel)⟩
theorem lw_p29 : lw_okq (⟨"WallsOfPrisonersModel", "read", "(II)I"⟩, 44) := ⟨⟨by decide +kernel, by decide +kernel⟩, List.mem_of_getElem? (i := 687) (by decide +kernel), List.mem_of_getElem? (i := 870) (by decide +kernel), List.mem_of_getElem? (i := 871) (by decide +kernel)⟩
theorem lw_p30 : lw_okq (⟨"WallsOfPrisonersModel", "next", "()V"⟩, 44) := ⟨⟨by decide +kernel, by decide +kernel⟩, List.mem_of_getElem? (i := 687) (by decide +kernel), List.mem_of_getElem? (i := 874) (by decide +kernel), List.mem_of_getElem? (i := 875) (by decide +kernel)⟩
theorem lw_p31 : lw_okq (⟨"WallsOfPrisonersModel", "byteAt", "(I)I"⟩, 44) := ⟨⟨by decide +kernel, by decide +kernel⟩, List.mem_of_getElem? (i := 687) (by decide +kernel), List.mem_of_getElem? (i := 878) (by decide +kernel), List.mem_of_getElem? (i := 879) (by decide +kernel)⟩
def lw_privs_2 : List (MethodName × Nat) := [(⟨"WallsOfPrisoners$Orders", "seekFrom", "(III)V"⟩, 6), (⟨"WallsOfPrisoners$Orders", "between", "(II)I"⟩, 6), (⟨"WallsOfPrisoners$Orders", "closesBy", "(I)Z"⟩, 6), (⟨"WallsOfPrisoners$Orders", "weakestNow", "()I"⟩, 6), (⟨"WallsOfPrisoners$Orders", "change", "(II)V"⟩, 6), (⟨"WallsOfPrisoners", "readBack", "(LWallsOfPrisoners$Sheet;II)I"⟩, 8), (⟨"WallsOfPrisonersModel", "spell", "(IIIIIIIII)V"⟩, 44), (⟨"WallsOfPrisonersModel", "isOf", "(II)Z"⟩, 44), (⟨"WallsOfPrisonersModel", "isOne", "(I)Z"⟩, 44), (⟨"WallsOfPrisonersModel", "isPlace", "(I)Z"⟩, 44), (⟨"WallsOfPrisonersModel", "placeOf", "(I)I"⟩, 44), (⟨"WallsOfPrisonersModel", "spentOf", "(I)I"⟩, 44), (⟨"WallsOfPrisonersModel", "says", "(III)I"⟩, 44), (⟨"WallsOfPrisonersModel", "read", "(II)I"⟩, 44), (⟨"WallsOfPrisonersModel", "next", "()V"⟩, 44), (⟨"WallsOfPrisonersModel", "byteAt", "(I)I"⟩, 44)]
theorem lw_r2 : ∀ q ∈ lw_privs_2, lw_okq q := List.forall_mem_cons.mpr ⟨lw_p16, List.forall_mem_cons.mpr ⟨lw_p17, List.forall_mem_cons.mpr ⟨lw_p18, List.forall_mem_cons.mpr ⟨lw_p19, List.forall_mem_cons.mpr ⟨lw_p20, List.forall_mem_cons.mpr ⟨lw_p21, List.forall_mem_cons.mpr ⟨lw_p22, List.forall_mem_cons.mpr ⟨lw_p23, List.forall_mem_cons.mpr ⟨lw_p24, List.forall_mem_cons.mpr ⟨lw_p25, List.forall_mem_cons.mpr ⟨lw_p26, List.forall_mem_cons.mpr ⟨lw_p27, List.forall_mem_cons.mpr ⟨lw_p28, List.forall_mem_cons.mpr ⟨lw_p29, List.forall_mem_cons.mpr ⟨lw_p30, List.forall_mem_cons.mpr ⟨lw_p31, fun _ h => absurd h List.not_mem_nil⟩⟩⟩⟩⟩⟩⟩⟩⟩⟩⟩⟩⟩⟩⟩⟩
theorem lw_p32 : lw_okq (⟨"WallsOfPrisonersModel", "isWord", "(IIIIIIII)Z"⟩, 44) := ⟨⟨by decide +kernel, by decide +kernel⟩, List.mem_of_getElem? (i := 687) (by decide +kernel), List.mem_of_getElem? (i := 887) (by decide +kernel), List.mem_of_getElem? (i := 888) (by decide +kernel)⟩
theorem lw_p33 : lw_okq (⟨"WallsOfPrisonersModel", "isLetter", "(II)Z"⟩, 44) := ⟨⟨by decide +kernel, by decide +kernel⟩, List.mem_of_getElem? (i := 687) (by decide +kernel), List.mem_of_getElem? (i := 891) (by decide +kernel), List.mem_of_getElem? (i := 892) (by decide +kernel)⟩
theorem lw_p34 : lw_okq (⟨"WallsOfPrisonersModel", "part", "(Z)I"⟩, 44) := ⟨⟨by decide +kernel, by decide +kernel⟩, List.mem_of_getElem? (i := 687) (by decide +kernel), List.mem_of_getElem? (i := 895) (by decide +kernel), List.mem_of_getElem? (i := 896) (by decide +kernel)⟩
theorem lw_p35 : lw_okq (⟨"WallsOfPrisonersModel", "fail", "()V"⟩, 44) := ⟨⟨by decide +kernel, by decide +kernel⟩, List.mem_of_getElem? (i := 687) (by decide +kernel), List.mem_of_getElem? (i := 899) (by decide +kernel), List.mem_of_getElem? (i := 900) (by decide +kernel)⟩
theorem lw_p36 : lw_okq (⟨"WallsOfPrisonersModel", "either", "()I"⟩, 44) := ⟨⟨by decide +kernel, by decide +kernel⟩, List.mem_of_getElem? (i := 687) (by decide +kernel), List.mem_of_getElem? (i := 903) (by decide +kernel), List.mem_of_getElem? (i := 904) (by decide +kernel)⟩
theorem lw_p37 : lw_okq (⟨"WallsOfPrisonersModel", "both", "()I"⟩, 44) := ⟨⟨by decide +kernel, by decide +kernel⟩, List.mem_of_getElem? (i := 687) (by decide +kernel), List.mem_of_getElem? (i := 907) (by decide +kernel), List.mem_of_getElem? (i := 908) (by decide +kernel)⟩
theorem lw_p38 : lw_okq (⟨"WallsOfPrisonersModel", "not", "()I"⟩, 44) := ⟨⟨by decide +kernel, by decide +kernel⟩, List.mem_of_getElem? (i := 687) (by decide +kernel), List.mem_of_getElem? (i := 911) (by decide +kernel), List.mem_of_getElem? (i := 912) (by decide +kernel)⟩
theorem lw_p39 : lw_okq (⟨"WallsOfPrisonersModel", "textOpens", "()Z"⟩, 44) := ⟨⟨by decide +kernel, by decide +kernel⟩, List.mem_of_getElem? (i := 687) (by decide +kernel), List.mem_of_getElem? (i := 915) (by decide +kernel), List.mem_of_getElem? (i := 916) (by decide +kernel)⟩
theorem lw_p40 : lw_okq (⟨"WallsOfPrisonersModel", "added", "()I"⟩, 44) := ⟨⟨by decide +kernel, by decide +kernel⟩, List.mem_of_getElem? (i := 687) (by decide +kernel), List.mem_of_getElem? (i := 919) (by decide +kernel), List.mem_of_getElem? (i := 920) (by decide +kernel)⟩
theorem lw_p41 : lw_okq (⟨"WallsOfPrisonersModel", "term", "()I"⟩, 44) := ⟨⟨by decide +kernel, by decide +kernel⟩, List.mem_of_getElem? (i := 687) (by decide +kernel), List.mem_of_getElem? (i := 923) (by decide +kernel), List.mem_of_getElem? (i := 924) (by decide +kernel)⟩
theorem lw_p42 : lw_okq (⟨"WallsOfPrisonersModel", "atom", "()I"⟩, 44) := ⟨⟨by decide +kernel, by decide +kernel⟩, List.mem_of_getElem? (i := 687) (by decide +kernel), List.mem_of_getElem? (i := 927) (by decide +kernel), List.mem_of_getElem? (i := 928) (by decide +kernel)⟩
theorem lw_p43 : lw_okq (⟨"WallsOfPrisonersModel", "isSign", "(I)Z"⟩, 44) := ⟨⟨by decide +kernel, by decide +kernel⟩, List.mem_of_getElem? (i := 687) (by decide +kernel), List.mem_of_getElem? (i := 931) (by decide +kernel), List.mem_of_getElem? (i := 932) (by decide +kernel)⟩
theorem lw_p44 : lw_okq (⟨"WallsOfPrisonersModel", "name", "()I"⟩, 44) := ⟨⟨by decide +kernel, by decide +kernel⟩, List.mem_of_getElem? (i := 687) (by decide +kernel), List.mem_of_getElem? (i := 935) (by decide +kernel), List.mem_of_getElem? (i := 936) (by decide +kernel)⟩
theorem lw_p45 : lw_okq (⟨"WallsOfPrisonersModel", "hold", "(I)I"⟩, 44) := ⟨⟨by decide +kernel, by decide +kernel⟩, List.mem_of_getElem? (i := 687) (by decide +kernel), List.mem_of_getElem? (i := 944) (by decide +kernel), List.mem_of_getElem? (i := 945) (by decide +kernel)⟩
theorem lw_p46 : lw_okq (⟨"WallsOfPrisonersModel", "gripsOf", "(II)I"⟩, 44) := ⟨⟨by decide +kernel, by decide +kernel⟩, List.mem_of_getElem? (i := 687) (by decide +kernel), List.mem_of_getElem? (i := 948) (by decide +kernel), List.mem_of_getElem? (i := 949) (by decide +kernel)⟩
theorem lw_p47 : lw_okq (⟨"WallsOfPrisonersModel", "lays", "(III)V"⟩, 44) := ⟨⟨by decide +kernel, by decide +kernel⟩, List.mem_of_getElem? (i := 687) (by decide +kernel), List.mem_of_getElem? (i := 952) (by decide +kernel), List.mem_of_getElem? (i := 953) (by decide +kernel)⟩
def lw_privs_3 : List (MethodName × Nat) := [(⟨"WallsOfPrisonersModel", "isWord", "(IIIIIIII)Z"⟩, 44), (⟨"WallsOfPrisonersModel", "isLetter", "(II)Z"⟩, 44), (⟨"WallsOfPrisonersModel", "part", "(Z)I"⟩, 44), (⟨"WallsOfPrisonersModel", "fail", "()V"⟩, 44), (⟨"WallsOfPrisonersModel", "either", "()I"⟩, 44), (⟨"WallsOfPrisonersModel", "both", "()I"⟩, 44), (⟨"WallsOfPrisonersModel", "not", "()I"⟩, 44), (⟨"WallsOfPrisonersModel", "textOpens", "()Z"⟩, 44), (⟨"WallsOfPrisonersModel", "added", "()I"⟩, 44), (⟨"WallsOfPrisonersModel", "term", "()I"⟩, 44), (⟨"WallsOfPrisonersModel", "atom", "()I"⟩, 44), (⟨"WallsOfPrisonersModel", "isSign", "(I)Z"⟩, 44), (⟨"WallsOfPrisonersModel", "name", "()I"⟩, 44), (⟨"WallsOfPrisonersModel", "hold", "(I)I"⟩, 44), (⟨"WallsOfPrisonersModel", "gripsOf", "(II)I"⟩, 44), (⟨"WallsOfPrisonersModel", "lays", "(III)V"⟩, 44)]
theorem lw_r3 : ∀ q ∈ lw_privs_3, lw_okq q := List.forall_mem_cons.mpr ⟨lw_p32, List.forall_mem_cons.mpr ⟨lw_p33, List.forall_mem_cons.mpr ⟨lw_p34, List.forall_mem_cons.mpr ⟨lw_p35, List.forall_mem_cons.mpr ⟨lw_p36, List.forall_mem_cons.mpr ⟨lw_p37, List.forall_mem_cons.mpr ⟨lw_p38, List.forall_mem_cons.mpr ⟨lw_p39, List.forall_mem_cons.mpr ⟨lw_p40, List.forall_mem_cons.mpr ⟨lw_p41, List.forall_mem_cons.mpr ⟨lw_p42, List.forall_mem_cons.mpr ⟨lw_p43, List.forall_mem_cons.mpr ⟨lw_p44, List.forall_mem_cons.mpr ⟨lw_p45, List.forall_mem_cons.mpr ⟨lw_p46, List.forall_mem_cons.mpr ⟨lw_p47, fun _ h => absurd h List.not_mem_nil⟩⟩⟩⟩⟩⟩⟩⟩⟩⟩⟩⟩⟩⟩⟩⟩
theorem lw_p48 : lw_okq (⟨"WallsOfPrisonersModel", "areTwo", "(II)Z"⟩, 44) := ⟨⟨by decide +kernel, by decide +kernel⟩, List.mem_of_getElem? (i := 687) (by decide +kernel), List.mem_of_getElem? (i := 981) (by decide +kernel), List.mem_of_getElem? (i := 982) (by decide +kernel)⟩
theorem lw_p49 : lw_okq (⟨"WallsOfPrisonersModel", "handsOf", "(II)I"⟩, 44) := ⟨⟨by decide +kernel, by decide +kernel⟩, List.mem_of_getElem? (i := 687) (by decide +kernel), List.mem_of_getElem? (i := 989) (by decide +kernel), List.mem_of_getElem? (i := 990) (by decide +kernel)⟩
theorem lw_p50 : lw_okq (⟨"WallsOfPrisonersModel", "weakest", "()I"⟩, 44) := ⟨⟨by decide +kernel, by decide +kernel⟩, List.mem_of_getElem? (i := 687) (by decide +kernel), List.mem_of_getElem? (i := 997) (by decide +kernel), List.mem_of_getElem? (i := 998) (by decide +kernel)⟩
theorem lw_p51 : lw_okq (⟨"WallsOfPrisonersModel", "gates", "()I"⟩, 44) := ⟨⟨by decide +kernel, by decide +kernel⟩, List.mem_of_getElem? (i := 687) (by decide +kernel), List.mem_of_getElem? (i := 1001) (by decide +kernel), List.mem_of_getElem? (i := 1002) (by decide +kernel)⟩
theorem lw_p52 : lw_okq (⟨"WallsOfPrisonersModel", "firstGate", "()I"⟩, 44) := ⟨⟨by decide +kernel, by decide +kernel⟩, List.mem_of_getElem? (i := 687) (by decide +kernel), List.mem_of_getElem? (i := 1005) (by decide +kernel), List.mem_of_getElem? (i := 1006) (by decide +kernel)⟩
theorem lw_p53 : lw_okq (⟨"WallsOfPrisonersModel", "closesUp", "(I)V"⟩, 44) := ⟨⟨by decide +kernel, by decide +kernel⟩, List.mem_of_getElem? (i := 687) (by decide +kernel), List.mem_of_getElem? (i := 1013) (by decide +kernel), List.mem_of_getElem? (i := 1014) (by decide +kernel)⟩
theorem lw_p54 : lw_okq (⟨"WallsOfPrisonersModel", "stands", "(II)V"⟩, 44) := ⟨⟨by decide +kernel, by decide +kernel⟩, List.mem_of_getElem? (i := 687) (by decide +kernel), List.mem_of_getElem? (i := 1021) (by decide +kernel), List.mem_of_getElem? (i := 1022) (by decide +kernel)⟩
theorem lw_p55 : lw_okq (⟨"WallsOfPrisonersModel", "change", "(II)V"⟩, 44) := ⟨⟨by decide +kernel, by decide +kernel⟩, List.mem_of_getElem? (i := 687) (by decide +kernel), List.mem_of_getElem? (i := 1029) (by decide +kernel), List.mem_of_getElem? (i := 1030) (by decide +kernel)⟩
theorem lw_p56 : lw_okq (⟨"WallsOfPrisonersModel", "passes", "()V"⟩, 44) := ⟨⟨by decide +kernel, by decide +kernel⟩, List.mem_of_getElem? (i := 687) (by decide +kernel), List.mem_of_getElem? (i := 1037) (by decide +kernel), List.mem_of_getElem? (i := 1038) (by decide +kernel)⟩
theorem lw_p57 : lw_okq (⟨"WallsOfPrisonersModel", "laysAside", "()V"⟩, 44) := ⟨⟨by decide +kernel, by decide +kernel⟩, List.mem_of_getElem? (i := 687) (by decide +kernel), List.mem_of_getElem? (i := 1052) (by decide +kernel), List.mem_of_getElem? (i := 1053) (by decide +kernel)⟩
theorem lw_p58 : lw_okq (⟨"WallsOfPrisonersModel", "laysBack", "()V"⟩, 44) := ⟨⟨by decide +kernel, by decide +kernel⟩, List.mem_of_getElem? (i := 687) (by decide +kernel), List.mem_of_getElem? (i := 1056) (by decide +kernel), List.mem_of_getElem? (i := 1057) (by decide +kernel)⟩
theorem lw_p59 : lw_okq (⟨"WallsOfPrisonersModel", "orders", "(II)V"⟩, 44) := ⟨⟨by decide +kernel, by decide +kernel⟩, List.mem_of_getElem? (i := 687) (by decide +kernel), List.mem_of_getElem? (i := 1068) (by decide +kernel), List.mem_of_getElem? (i := 1069) (by decide +kernel)⟩
theorem lw_p60 : lw_okq (⟨"WallsOfPrisonersModel", "digitsOf", "()I"⟩, 44) := ⟨⟨by decide +kernel, by decide +kernel⟩, List.mem_of_getElem? (i := 687) (by decide +kernel), List.mem_of_getElem? (i := 1072) (by decide +kernel), List.mem_of_getElem? (i := 1073) (by decide +kernel)⟩
theorem lw_p61 : lw_okq (⟨"WallsOfPrisonersModel", "shutBy", "(I)Z"⟩, 44) := ⟨⟨by decide +kernel, by decide +kernel⟩, List.mem_of_getElem? (i := 687) (by decide +kernel), List.mem_of_getElem? (i := 1088) (by decide +kernel), List.mem_of_getElem? (i := 1089) (by decide +kernel)⟩
theorem lw_p62 : lw_okq (⟨"WallsOfPrisonersModel", "firstOther", "(I)I"⟩, 44) := ⟨⟨by decide +kernel, by decide +kernel⟩, List.mem_of_getElem? (i := 687) (by decide +kernel), List.mem_of_getElem? (i := 1108) (by decide +kernel), List.mem_of_getElem? (i := 1109) (by decide +kernel)⟩
theorem lw_p63 : lw_okq (⟨"WallsOfPrisonersModel", "weakestDrawn", "(II)I"⟩, 44) := ⟨⟨by decide +kernel, by decide +kernel⟩, List.mem_of_getElem? (i := 687) (by decide +kernel), List.mem_of_getElem? (i := 1125) (by decide +kernel), List.mem_of_getElem? (i := 1126) (by decide +kernel)⟩
def lw_privs_4 : List (MethodName × Nat) := [(⟨"WallsOfPrisonersModel", "areTwo", "(II)Z"⟩, 44), (⟨"WallsOfPrisonersModel", "handsOf", "(II)I"⟩, 44), (⟨"WallsOfPrisonersModel", "weakest", "()I"⟩, 44), (⟨"WallsOfPrisonersModel", "gates", "()I"⟩, 44), (⟨"WallsOfPrisonersModel", "firstGate", "()I"⟩, 44), (⟨"WallsOfPrisonersModel", "closesUp", "(I)V"⟩, 44), (⟨"WallsOfPrisonersModel", "stands", "(II)V"⟩, 44), (⟨"WallsOfPrisonersModel", "change", "(II)V"⟩, 44), (⟨"WallsOfPrisonersModel", "passes", "()V"⟩, 44), (⟨"WallsOfPrisonersModel", "laysAside", "()V"⟩, 44), (⟨"WallsOfPrisonersModel", "laysBack", "()V"⟩, 44), (⟨"WallsOfPrisonersModel", "orders", "(II)V"⟩, 44), (⟨"WallsOfPrisonersModel", "digitsOf", "()I"⟩, 44), (⟨"WallsOfPrisonersModel", "shutBy", "(I)Z"⟩, 44), (⟨"WallsOfPrisonersModel", "firstOther", "(I)I"⟩, 44), (⟨"WallsOfPrisonersModel", "weakestDrawn", "(II)I"⟩, 44)]
theorem lw_r4 : ∀ q ∈ lw_privs_4, lw_okq q := List.forall_mem_cons.mpr ⟨lw_p48, List.forall_mem_cons.mpr ⟨lw_p49, List.forall_mem_cons.mpr ⟨lw_p50, List.forall_mem_cons.mpr ⟨lw_p51, List.forall_mem_cons.mpr ⟨lw_p52, List.forall_mem_cons.mpr ⟨lw_p53, List.forall_mem_cons.mpr ⟨lw_p54, List.forall_mem_cons.mpr ⟨lw_p55, List.forall_mem_cons.mpr ⟨lw_p56, List.forall_mem_cons.mpr ⟨lw_p57, List.forall_mem_cons.mpr ⟨lw_p58, List.forall_mem_cons.mpr ⟨lw_p59, List.forall_mem_cons.mpr ⟨lw_p60, List.forall_mem_cons.mpr ⟨lw_p61, List.forall_mem_cons.mpr ⟨lw_p62, List.forall_mem_cons.mpr ⟨lw_p63, fun _ h => absurd h List.not_mem_nil⟩⟩⟩⟩⟩⟩⟩⟩⟩⟩⟩⟩⟩⟩⟩⟩
def lw_privs : List (MethodName × Nat) := lw_privs_1 ++ (lw_privs_2 ++ (lw_privs_3 ++ (lw_privs_4)))
def lw_tbl : List Cond := k2_sels lw_privs ++ tables_1
theorem lw_privs_ok : ∀ q ∈ lw_privs, lw_okq q := by
  show ∀ q ∈ lw_privs_1 ++ (lw_privs_2 ++ (lw_privs_3 ++ (lw_privs_4))), lw_okq q
  exact List.forall_mem_append.mpr ⟨lw_r1, List.forall_mem_append.mpr ⟨lw_r2, List.forall_mem_append.mpr ⟨lw_r3, lw_r4⟩⟩⟩
-- ===== end of PART A; then your names; then what follows =====
end
section
/-! ===== BEGIN words of one list among another's, by their places ===== -/
theorem goodIn_r {big : List Cond} (ws : List Cond) (ps : List Nat) (hp : ws = ps.filterMap (fun i => big[i]?)) (h : ws.all goodWord = true) : GoodIn big ws := by
  intro w hw
  have h1 := List.all_eq_true.mp h w hw
  rw [hp] at hw
  obtain ⟨i, -, hi⟩ := List.mem_filterMap.mp hw
  have hm : w ∈ big := by first | exact List.mem_of_getElem? hi | exact List.getElem?_mem hi
  exact ⟨hm, good_of_word h1⟩
theorem goodIn_app {big a b : List Cond} (ha : GoodIn big a) (hb : GoodIn big b) : GoodIn big (a ++ b) := fun w h => (List.mem_append.mp h).elim (ha w) (hb w)
theorem goodIn_ca {big a b : List Cond} {c : Cond} (ha : GoodIn big (c :: a)) (hb : GoodIn big b) : GoodIn big (c :: (a ++ b)) := fun w h => (List.mem_cons.mp h).elim (fun e => ha w (List.mem_cons.mpr (Or.inl e))) (fun h => (List.mem_append.mp h).elim (fun h => ha w (List.mem_cons.mpr (Or.inr h))) (hb w))
theorem goodIn_sub {big ws : List Cond} (hm : ∀ w ∈ ws, w ∈ big) (h : ws.all goodWord = true) : GoodIn big ws := fun w hw => ⟨hm w hw, good_of_word (List.all_eq_true.mp h w hw)⟩
/-! ===== END ===== -/

/-! ===== BEGIN printed: names, fields, word lists, decode rows ===== -/
def RX0 : String := "WallsOfPrisoners$Marsh"
def TX0 : u_T := fun k => match k with
  | 0 => ("WallsOfPrisoners$Marsh", "texts", "LWallsOfPrisoners$Texts;", true)
  | 1 => ("WallsOfPrisoners$Marsh", "kind", "[I", true)
  | 2 => ("WallsOfPrisoners$Marsh", "number", "[I", true)
  | 3 => ("WallsOfPrisoners$Marsh", "strength", "[I", true)
  | 4 => ("WallsOfPrisoners$Marsh", "ring", "[I", true)
  | 5 => ("WallsOfPrisoners$Marsh", "men", "I", false)
  | 6 => ("WallsOfPrisoners$Marsh", "standing", "I", false)
  | 7 => ("WallsOfPrisoners$Marsh", "hour", "I", false)
  | 8 => ("WallsOfPrisoners$Marsh", "cold", "I", false)
  | _ => ("WallsOfPrisoners$Marsh", "rule", "I", false)
def tyX0 : Nat → FieldType := fun k => match k with
  | 0 => .object "WallsOfPrisoners$Texts"
  | 1 => .array .int
  | 2 => .array .int
  | 3 => .array .int
  | 4 => .array .int
  | 5 => .int
  | 6 => .int
  | 7 => .int
  | 8 => .int
  | _ => .int
abbrev wsX00 : List Cond := u_ws RX0 TX0 10
theorem nmX0 : ∀ a, a < 10 → ∀ b, b < 10 → a ≠ b → (TX0 a).2.1 ≠ (TX0 b).2.1 := by decide +kernel
theorem tyX0_ok : ∀ k, k < 10 → parseFieldDescriptor (TX0 k).2.2.1 = some (tyX0 k) := by decide +kernel
abbrev cX0_init : ByteArray := prog_2_method_1_code
def yX0_init : MethodName := ⟨RX0, "<init>", "(LWallsOfPrisoners$Texts;)V"⟩
abbrev cX0_takeFrom : ByteArray := prog_2_method_2_code
def yX0_takeFrom : MethodName := ⟨RX0, "takeFrom", "(LWallsOfPrisoners$Marsh;)V"⟩
abbrev cX0_has : ByteArray := prog_2_method_3_code
def yX0_has : MethodName := ⟨RX0, "has", "(I)Z"⟩
abbrev cX0_join : ByteArray := prog_2_method_4_code
def yX0_join : MethodName := ⟨RX0, "join", "(III)I"⟩
abbrev cX0_trait : ByteArray := prog_2_method_5_code
def yX0_trait : MethodName := ⟨RX0, "trait", "(II)I"⟩
abbrev cX0_suppose : ByteArray := prog_2_method_6_code
def yX0_suppose : MethodName := ⟨RX0, "suppose", "(III)V"⟩
abbrev cX0_who : ByteArray := prog_2_method_7_code
def yX0_who : MethodName := ⟨RX0, "who", "(I)I"⟩
abbrev cX0_placeOf : ByteArray := prog_2_method_8_code
def yX0_placeOf : MethodName := ⟨RX0, "placeOf", "(I)I"⟩
abbrev cX0_placeBehind : ByteArray := prog_2_method_9_code
def yX0_placeBehind : MethodName := ⟨RX0, "placeBehind", "(I)I"⟩
abbrev cX0_leave : ByteArray := prog_2_method_10_code
def yX0_leave : MethodName := ⟨RX0, "leave", "(I)V"⟩
abbrev cX0_enter : ByteArray := prog_2_method_11_code
def yX0_enter : MethodName := ⟨RX0, "enter", "(II)V"⟩
abbrev cX0_exchange : ByteArray := prog_2_method_12_code
def yX0_exchange : MethodName := ⟨RX0, "exchange", "(II)V"⟩
abbrev cX0_passHour : ByteArray := prog_2_method_13_code
def yX0_passHour : MethodName := ⟨RX0, "passHour", "()V"⟩
abbrev cX0_holds : ByteArray := prog_2_method_14_code
def yX0_holds : MethodName := ⟨RX0, "holds", "()I"⟩
abbrev cX0_holdFrom : ByteArray := prog_2_method_15_code
def yX0_holdFrom : MethodName := ⟨RX0, "holdFrom", "(I)I"⟩
abbrev cX0_weakest : ByteArray := prog_2_method_16_code
def yX0_weakest : MethodName := ⟨RX0, "weakest", "()I"⟩
abbrev cX0_gates : ByteArray := prog_2_method_17_code
def yX0_gates : MethodName := ⟨RX0, "gates", "()I"⟩
abbrev cX0_firstGate : ByteArray := prog_2_method_18_code
def yX0_firstGate : MethodName := ⟨RX0, "firstGate", "()I"⟩
abbrev cX0_firstUnlike : ByteArray := prog_2_method_19_code
def yX0_firstUnlike : MethodName := ⟨RX0, "firstUnlike", "(LWallsOfPrisoners$Sheet;)I"⟩
abbrev cX0_gripOf : ByteArray := prog_2_method_20_code
def yX0_gripOf : MethodName := ⟨RX0, "gripOf", "(II)I"⟩
abbrev cX0_asBrother : ByteArray := prog_2_method_21_code
def yX0_asBrother : MethodName := ⟨RX0, "asBrother", "(II)I"⟩
abbrev cX0_handedOn : ByteArray := prog_2_method_22_code
def yX0_handedOn : MethodName := ⟨RX0, "handedOn", "(II)I"⟩
abbrev cX0_spentBy : ByteArray := prog_2_method_23_code
def yX0_spentBy : MethodName := ⟨RX0, "spentBy", "(I)I"⟩
abbrev cX0_named : ByteArray := prog_2_method_24_code
def yX0_named : MethodName := ⟨RX0, "named", "(III)I"⟩
def RX1 : String := "WallsOfPrisoners$Orders"
def TX1 : u_T := fun k => match k with
  | 0 => ("WallsOfPrisoners$Orders", "hardness", "[I", true)
  | 1 => ("WallsOfPrisoners$Orders", "ring", "[I", true)
  | 2 => ("WallsOfPrisoners$Orders", "atFirst", "[I", true)
  | 3 => ("WallsOfPrisoners$Orders", "best", "[I", true)
  | 4 => ("WallsOfPrisoners$Orders", "standing", "I", false)
  | _ => ("WallsOfPrisoners$Orders", "bestHard", "I", false)
def tyX1 : Nat → FieldType := fun k => match k with
  | 0 => .array .int
  | 1 => .array .int
  | 2 => .array .int
  | 3 => .array .int
  | 4 => .int
  | _ => .int
abbrev wsX10 : List Cond := u_ws RX1 TX1 6
theorem nmX1 : ∀ a, a < 6 → ∀ b, b < 6 → a ≠ b → (TX1 a).2.1 ≠ (TX1 b).2.1 := by decide +kernel
theorem tyX1_ok : ∀ k, k < 6 → parseFieldDescriptor (TX1 k).2.2.1 = some (tyX1 k) := by decide +kernel
abbrev cX1_init : ByteArray := prog_3_method_1_code
def yX1_init : MethodName := ⟨RX1, "<init>", "()V"⟩
abbrev cX1_look : ByteArray := prog_3_method_2_code
def yX1_look : MethodName := ⟨RX1, "look", "(LWallsOfPrisoners$Marsh;)V"⟩
abbrev cX1_between : ByteArray := prog_3_method_3_code
def yX1_between : MethodName := ⟨RX1, "between", "(II)I"⟩
abbrev cX1_weakestNow : ByteArray := prog_3_method_4_code
def yX1_weakestNow : MethodName := ⟨RX1, "weakestNow", "()I"⟩
abbrev cX1_change : ByteArray := prog_3_method_5_code
def yX1_change : MethodName := ⟨RX1, "change", "(II)V"⟩
abbrev cX1_seekBest : ByteArray := prog_3_method_6_code
def yX1_seekBest : MethodName := ⟨RX1, "seekBest", "()V"⟩
abbrev cX1_seekFrom : ByteArray := prog_3_method_7_code
def yX1_seekFrom : MethodName := ⟨RX1, "seekFrom", "(III)V"⟩
abbrev cX1_bestDigits : ByteArray := prog_3_method_8_code
def yX1_bestDigits : MethodName := ⟨RX1, "bestDigits", "()I"⟩
abbrev cX1_fewestChanges : ByteArray := prog_3_method_9_code
def yX1_fewestChanges : MethodName := ⟨RX1, "fewestChanges", "()I"⟩
abbrev cX1_closesBy : ByteArray := prog_3_method_10_code
def yX1_closesBy : MethodName := ⟨RX1, "closesBy", "(I)Z"⟩
abbrev cX1_weakestDrawn : ByteArray := prog_3_method_11_code
def yX1_weakestDrawn : MethodName := ⟨RX1, "weakestDrawn", "(II)I"⟩
def RX2 : String := "WallsOfPrisoners$Reader"
def TX2 : u_T := fun k => match k with
  | 0 => ("WallsOfPrisoners$Reader", "texts", "LWallsOfPrisoners$Texts;", true)
  | 1 => ("WallsOfPrisoners$Reader", "tape", "[I", true)
  | 2 => ("WallsOfPrisoners$Reader", "size", "I", false)
  | 3 => ("WallsOfPrisoners$Reader", "at", "I", false)
  | 4 => ("WallsOfPrisoners$Reader", "start", "I", false)
  | 5 => ("WallsOfPrisoners$Reader", "token", "I", false)
  | _ => ("WallsOfPrisoners$Reader", "worth", "I", false)
def tyX2 : Nat → FieldType := fun k => match k with
  | 0 => .object "WallsOfPrisoners$Texts"
  | 1 => .array .int
  | 2 => .int
  | 3 => .int
  | 4 => .int
  | 5 => .int
  | _ => .int
abbrev wsX20 : List Cond := u_ws RX2 TX2 7
theorem nmX2 : ∀ a, a < 7 → ∀ b, b < 7 → a ≠ b → (TX2 a).2.1 ≠ (TX2 b).2.1 := by decide +kernel
theorem tyX2_ok : ∀ k, k < 7 → parseFieldDescriptor (TX2 k).2.2.1 = some (tyX2 k) := by decide +kernel
abbrev cX2_init : ByteArray := prog_4_method_1_code
def yX2_init : MethodName := ⟨RX2, "<init>", "(LWallsOfPrisoners$Texts;)V"⟩
abbrev cX2_add : ByteArray := prog_4_method_2_code
def yX2_add : MethodName := ⟨RX2, "add", "(I)Z"⟩
abbrev cX2_read : ByteArray := prog_4_method_3_code
def yX2_read : MethodName := ⟨RX2, "read", "()I"⟩
abbrev cX2_readPart : ByteArray := prog_4_method_4_code
def yX2_readPart : MethodName := ⟨RX2, "readPart", "(I)Z"⟩
abbrev cX2_readEither : ByteArray := prog_4_method_5_code
def yX2_readEither : MethodName := ⟨RX2, "readEither", "(I)Z"⟩
abbrev cX2_readBoth : ByteArray := prog_4_method_6_code
def yX2_readBoth : MethodName := ⟨RX2, "readBoth", "(I)Z"⟩
abbrev cX2_readDenial : ByteArray := prog_4_method_7_code
def yX2_readDenial : MethodName := ⟨RX2, "readDenial", "(I)Z"⟩
abbrev cX2_readComparison : ByteArray := prog_4_method_8_code
def yX2_readComparison : MethodName := ⟨RX2, "readComparison", "(I)Z"⟩
abbrev cX2_readSum : ByteArray := prog_4_method_9_code
def yX2_readSum : MethodName := ⟨RX2, "readSum", "(I)Z"⟩
abbrev cX2_readTerm : ByteArray := prog_4_method_10_code
def yX2_readTerm : MethodName := ⟨RX2, "readTerm", "(I)Z"⟩
abbrev cX2_readOne : ByteArray := prog_4_method_11_code
def yX2_readOne : MethodName := ⟨RX2, "readOne", "(I)Z"⟩
abbrev cX2_readNegation : ByteArray := prog_4_method_12_code
def yX2_readNegation : MethodName := ⟨RX2, "readNegation", "(I)Z"⟩
abbrev cX2_readBrackets : ByteArray := prog_4_method_13_code
def yX2_readBrackets : MethodName := ⟨RX2, "readBrackets", "(I)Z"⟩
abbrev cX2_advance : ByteArray := prog_4_method_14_code
def yX2_advance : MethodName := ⟨RX2, "advance", "()V"⟩
abbrev cX2_letterAt : ByteArray := prog_4_method_15_code
def yX2_letterAt : MethodName := ⟨RX2, "letterAt", "(I)I"⟩
abbrev cX2_readDigits : ByteArray := prog_4_method_16_code
def yX2_readDigits : MethodName := ⟨RX2, "readDigits", "()V"⟩
abbrev cX2_readWord : ByteArray := prog_4_method_17_code
def yX2_readWord : MethodName := ⟨RX2, "readWord", "()V"⟩
abbrev cX2_isHere : ByteArray := prog_4_method_18_code
def yX2_isHere : MethodName := ⟨RX2, "isHere", "(Ljava/lang/String;)Z"⟩
abbrev cX2_isDigit : ByteArray := prog_4_method_19_code
def yX2_isDigit : MethodName := ⟨RX2, "isDigit", "(I)Z"⟩
abbrev cX2_isSmall : ByteArray := prog_4_method_20_code
def yX2_isSmall : MethodName := ⟨RX2, "isSmall", "(I)Z"⟩
abbrev cX2_isSign : ByteArray := prog_4_method_21_code
def yX2_isSign : MethodName := ⟨RX2, "isSign", "(I)Z"⟩
abbrev cX2_word : ByteArray := prog_4_method_22_code
def yX2_word : MethodName := ⟨RX2, "word", "(I)Ljava/lang/String;"⟩
def RX3 : String := "WallsOfPrisoners$Sheet"
def TX3 : u_T := fun k => match k with
  | 0 => ("WallsOfPrisoners$Sheet", "row", "[I", true)
  | 1 => ("WallsOfPrisoners$Sheet", "sort", "I", false)
  | _ => ("WallsOfPrisoners$Sheet", "size", "I", false)
def tyX3 : Nat → FieldType := fun k => match k with
  | 0 => .array .int
  | 1 => .int
  | _ => .int
abbrev wsX30 : List Cond := u_ws RX3 TX3 3
theorem nmX3 : ∀ a, a < 3 → ∀ b, b < 3 → a ≠ b → (TX3 a).2.1 ≠ (TX3 b).2.1 := by decide +kernel
theorem tyX3_ok : ∀ k, k < 3 → parseFieldDescriptor (TX3 k).2.2.1 = some (tyX3 k) := by decide +kernel
abbrev cX3_init : ByteArray := prog_5_method_1_code
def yX3_init : MethodName := ⟨RX3, "<init>", "()V"⟩
abbrev cX3_become : ByteArray := prog_5_method_2_code
def yX3_become : MethodName := ⟨RX3, "become", "(II)V"⟩
abbrev cX3_has : ByteArray := prog_5_method_3_code
def yX3_has : MethodName := ⟨RX3, "has", "(I)Z"⟩
abbrev cX3_hasRun : ByteArray := prog_5_method_4_code
def yX3_hasRun : MethodName := ⟨RX3, "hasRun", "(II)Z"⟩
abbrev cX3_put : ByteArray := prog_5_method_5_code
def yX3_put : MethodName := ⟨RX3, "put", "(II)V"⟩
def RX4 : String := "WallsOfPrisoners$Texts"
def TX4 : u_T := fun k => match k with
  | 0 => ("WallsOfPrisoners$Texts", "codes", "[I", true)
  | 1 => ("WallsOfPrisoners$Texts", "ends", "[I", true)
  | 2 => ("WallsOfPrisoners$Texts", "stack", "[I", true)
  | 3 => ("WallsOfPrisoners$Texts", "many", "I", false)
  | _ => ("WallsOfPrisoners$Texts", "written", "I", false)
def tyX4 : Nat → FieldType := fun k => match k with
  | 0 => .array .int
  | 1 => .array .int
  | 2 => .array .int
  | 3 => .int
  | _ => .int
abbrev wsX40 : List Cond := u_ws RX4 TX4 5
theorem nmX4 : ∀ a, a < 5 → ∀ b, b < 5 → a ≠ b → (TX4 a).2.1 ≠ (TX4 b).2.1 := by decide +kernel
theorem tyX4_ok : ∀ k, k < 5 → parseFieldDescriptor (TX4 k).2.2.1 = some (tyX4 k) := by decide +kernel
abbrev cX4_init : ByteArray := prog_6_method_1_code
def yX4_init : MethodName := ⟨RX4, "<init>", "()V"⟩
abbrev cX4_begin : ByteArray := prog_6_method_2_code
def yX4_begin : MethodName := ⟨RX4, "begin", "()V"⟩
abbrev cX4_put : ByteArray := prog_6_method_3_code
def yX4_put : MethodName := ⟨RX4, "put", "(I)V"⟩
abbrev cX4_endPart : ByteArray := prog_6_method_4_code
def yX4_endPart : MethodName := ⟨RX4, "endPart", "(I)V"⟩
abbrev cX4_value : ByteArray := prog_6_method_5_code
def yX4_value : MethodName := ⟨RX4, "value", "(ILWallsOfPrisoners$Marsh;II)I"⟩
abbrev cX4_done : ByteArray := prog_6_method_6_code
def yX4_done : MethodName := ⟨RX4, "done", "(III)I"⟩
def RX5 : String := "WallsOfPrisoners"
def TX5 : u_T := fun k => match k with
  | 0 => ("WallsOfPrisoners", "texts", "LWallsOfPrisoners$Texts;", true)
  | 1 => ("WallsOfPrisoners", "reader", "LWallsOfPrisoners$Reader;", true)
  | 2 => ("WallsOfPrisoners", "marsh", "LWallsOfPrisoners$Marsh;", true)
  | 3 => ("WallsOfPrisoners", "thought", "LWallsOfPrisoners$Marsh;", true)
  | 4 => ("WallsOfPrisoners", "kept", "LWallsOfPrisoners$Marsh;", true)
  | 5 => ("WallsOfPrisoners", "orders", "LWallsOfPrisoners$Orders;", true)
  | 6 => ("WallsOfPrisoners", "sheets", "[LWallsOfPrisoners$Sheet;", true)
  | _ => ("WallsOfPrisoners", "isKept", "Z", false)
def tyX5 : Nat → FieldType := fun k => match k with
  | 0 => .object "WallsOfPrisoners$Texts"
  | 1 => .object "WallsOfPrisoners$Reader"
  | 2 => .object "WallsOfPrisoners$Marsh"
  | 3 => .object "WallsOfPrisoners$Marsh"
  | 4 => .object "WallsOfPrisoners$Marsh"
  | 5 => .object "WallsOfPrisoners$Orders"
  | 6 => .array (.object "WallsOfPrisoners$Sheet")
  | _ => .boolean
abbrev wsX50 : List Cond := u_ws RX5 TX5 8
theorem nmX5 : ∀ a, a < 8 → ∀ b, b < 8 → a ≠ b → (TX5 a).2.1 ≠ (TX5 b).2.1 := by decide +kernel
theorem tyX5_ok : ∀ k, k < 8 → parseFieldDescriptor (TX5 k).2.2.1 = some (tyX5 k) := by decide +kernel
abbrev cX5_init : ByteArray := prog_1_method_1_code
def yX5_init : MethodName := ⟨RX5, "<init>", "()V"⟩
abbrev cX5_set : ByteArray := prog_1_method_2_code
def yX5_set : MethodName := ⟨RX5, "set", "(III)I"⟩
abbrev cX5_man : ByteArray := prog_1_method_3_code
def yX5_man : MethodName := ⟨RX5, "man", "(III)I"⟩
abbrev cX5_told : ByteArray := prog_1_method_4_code
def yX5_told : MethodName := ⟨RX5, "told", "(II)I"⟩
abbrev cX5_grips : ByteArray := prog_1_method_5_code
def yX5_grips : MethodName := ⟨RX5, "grips", "(II)I"⟩
abbrev cX5_hands : ByteArray := prog_1_method_6_code
def yX5_hands : MethodName := ⟨RX5, "hands", "(II)I"⟩
abbrev cX5_feed : ByteArray := prog_1_method_7_code
def yX5_feed : MethodName := ⟨RX5, "feed", "(I)I"⟩
abbrev cX5_text : ByteArray := prog_1_method_8_code
def yX5_text : MethodName := ⟨RX5, "text", "()I"⟩
abbrev cX5_force : ByteArray := prog_1_method_9_code
def yX5_force : MethodName := ⟨RX5, "force", "(I)I"⟩
abbrev cX5_out : ByteArray := prog_1_method_10_code
def yX5_out : MethodName := ⟨RX5, "out", "(I)I"⟩
abbrev cX5_into : ByteArray := prog_1_method_11_code
def yX5_into : MethodName := ⟨RX5, "into", "(II)I"⟩
abbrev cX5_swap : ByteArray := prog_1_method_12_code
def yX5_swap : MethodName := ⟨RX5, "swap", "(II)I"⟩
abbrev cX5_hour : ByteArray := prog_1_method_13_code
def yX5_hour : MethodName := ⟨RX5, "hour", "()I"⟩
abbrev cX5_wall : ByteArray := prog_1_method_14_code
def yX5_wall : MethodName := ⟨RX5, "wall", "(I)I"⟩
abbrev cX5_sneeze : ByteArray := prog_1_method_15_code
def yX5_sneeze : MethodName := ⟨RX5, "sneeze", "(III)I"⟩
abbrev cX5_run : ByteArray := prog_1_method_16_code
def yX5_run : MethodName := ⟨RX5, "run", "(II)I"⟩
abbrev cX5_opens : ByteArray := prog_1_method_17_code
def yX5_opens : MethodName := ⟨RX5, "opens", "()I"⟩
abbrev cX5_order : ByteArray := prog_1_method_18_code
def yX5_order : MethodName := ⟨RX5, "order", "(I)I"⟩
abbrev cX5_let : ByteArray := prog_1_method_19_code
def yX5_let : MethodName := ⟨RX5, "let", "(I)I"⟩
abbrev cX5_letsIn : ByteArray := prog_1_method_20_code
def yX5_letsIn : MethodName := ⟨RX5, "letsIn", "(II)I"⟩
abbrev cX5_swaps : ByteArray := prog_1_method_21_code
def yX5_swaps : MethodName := ⟨RX5, "swaps", "()I"⟩
abbrev cX5_mean : ByteArray := prog_1_method_22_code
def yX5_mean : MethodName := ⟨RX5, "mean", "(I)J"⟩
abbrev cX5_tells : ByteArray := prog_1_method_23_code
def yX5_tells : MethodName := ⟨RX5, "tells", "(III)I"⟩
abbrev cX5_film : ByteArray := prog_1_method_24_code
def yX5_film : MethodName := ⟨RX5, "film", "(I)I"⟩
abbrev cX5_drawn : ByteArray := prog_1_method_25_code
def yX5_drawn : MethodName := ⟨RX5, "drawn", "(II)I"⟩
abbrev cX5_chance : ByteArray := prog_1_method_26_code
def yX5_chance : MethodName := ⟨RX5, "chance", "(IIII)J"⟩
abbrev cX5_image : ByteArray := prog_1_method_27_code
def yX5_image : MethodName := ⟨RX5, "image", "()I"⟩
abbrev cX5_back : ByteArray := prog_1_method_28_code
def yX5_back : MethodName := ⟨RX5, "back", "()I"⟩
abbrev cX5_count : ByteArray := prog_1_method_29_code
def yX5_count : MethodName := ⟨RX5, "count", "(I)I"⟩
abbrev cX5_sheet : ByteArray := prog_1_method_30_code
def yX5_sheet : MethodName := ⟨RX5, "sheet", "(III)I"⟩
abbrev cX5_cell : ByteArray := prog_1_method_31_code
def yX5_cell : MethodName := ⟨RX5, "cell", "(III)I"⟩
abbrev cX5_copy : ByteArray := prog_1_method_32_code
def yX5_copy : MethodName := ⟨RX5, "copy", "(IIIII)I"⟩
abbrev cX5_chain : ByteArray := prog_1_method_33_code
def yX5_chain : MethodName := ⟨RX5, "chain", "(IIII)I"⟩
abbrev cX5_taken : ByteArray := prog_1_method_34_code
def yX5_taken : MethodName := ⟨RX5, "taken", "(II)I"⟩
abbrev cX5_isSheet : ByteArray := prog_1_method_35_code
def yX5_isSheet : MethodName := ⟨RX5, "isSheet", "(I)Z"⟩
abbrev cX5_greatest : ByteArray := prog_1_method_36_code
def yX5_greatest : MethodName := ⟨RX5, "greatest", "(I)I"⟩
abbrev cX5_bounded : ByteArray := prog_1_method_37_code
def yX5_bounded : MethodName := ⟨RX5, "bounded", "(I)I"⟩
abbrev cX5_isUnder : ByteArray := prog_1_method_38_code
def yX5_isUnder : MethodName := ⟨RX5, "isUnder", "(II)Z"⟩
abbrev cX5_lowestTerm : ByteArray := prog_1_method_39_code
def yX5_lowestTerm : MethodName := ⟨RX5, "lowestTerm", "(III)J"⟩
abbrev cX5_readBack : ByteArray := prog_1_method_40_code
def yX5_readBack : MethodName := ⟨RX5, "readBack", "(LWallsOfPrisoners$Sheet;II)I"⟩
abbrev cX5_traitReadBack : ByteArray := prog_1_method_41_code
def yX5_traitReadBack : MethodName := ⟨RX5, "traitReadBack", "(I)I"⟩
def RX6 : String := "WallsOfPrisonersModel"
def TX6 : u_T := fun k => match k with
  | 0 => ("WallsOfPrisonersModel", "thrown", "I", false)
  | 1 => ("WallsOfPrisonersModel", "texts", "[I", true)
  | 2 => ("WallsOfPrisonersModel", "textSize", "[I", true)
  | 3 => ("WallsOfPrisonersModel", "textCount", "I", false)
  | 4 => ("WallsOfPrisonersModel", "rule", "I", false)
  | 5 => ("WallsOfPrisonersModel", "tape", "[I", true)
  | 6 => ("WallsOfPrisonersModel", "taped", "I", false)
  | 7 => ("WallsOfPrisonersModel", "hourNow", "I", false)
  | 8 => ("WallsOfPrisonersModel", "cold", "I", false)
  | 9 => ("WallsOfPrisonersModel", "rows", "[I", true)
  | 10 => ("WallsOfPrisonersModel", "men", "I", false)
  | 11 => ("WallsOfPrisonersModel", "ring", "[I", true)
  | 12 => ("WallsOfPrisonersModel", "size", "I", false)
  | 13 => ("WallsOfPrisonersModel", "ofStrength", "I", false)
  | 14 => ("WallsOfPrisonersModel", "ofNext", "I", false)
  | 15 => ("WallsOfPrisonersModel", "ofNumber", "I", false)
  | 16 => ("WallsOfPrisonersModel", "ofHour", "I", false)
  | 17 => ("WallsOfPrisonersModel", "ofCold", "I", false)
  | 18 => ("WallsOfPrisonersModel", "ofMany", "I", false)
  | 19 => ("WallsOfPrisonersModel", "from", "I", false)
  | 20 => ("WallsOfPrisonersModel", "textEnd", "I", false)
  | 21 => ("WallsOfPrisonersModel", "here", "I", false)
  | 22 => ("WallsOfPrisonersModel", "token", "I", false)
  | 23 => ("WallsOfPrisonersModel", "tokenAt", "I", false)
  | 24 => ("WallsOfPrisonersModel", "tokenWorth", "J", false)
  | 25 => ("WallsOfPrisonersModel", "open", "I", false)
  | 26 => ("WallsOfPrisonersModel", "bad", "Z", false)
  | 27 => ("WallsOfPrisonersModel", "fault", "I", false)
  | 28 => ("WallsOfPrisonersModel", "spent", "[I", true)
  | 29 => ("WallsOfPrisonersModel", "was", "[I", true)
  | 30 => ("WallsOfPrisonersModel", "ringWas", "[I", true)
  | 31 => ("WallsOfPrisonersModel", "bestRow", "I", false)
  | 32 => ("WallsOfPrisonersModel", "bestHard", "I", false)
  | 33 => ("WallsOfPrisonersModel", "rowsKept", "[I", true)
  | 34 => ("WallsOfPrisonersModel", "ringKept", "[I", true)
  | 35 => ("WallsOfPrisonersModel", "menKept", "I", false)
  | 36 => ("WallsOfPrisonersModel", "sizeKept", "I", false)
  | 37 => ("WallsOfPrisonersModel", "hourKept", "I", false)
  | 38 => ("WallsOfPrisonersModel", "coldKept", "I", false)
  | 39 => ("WallsOfPrisonersModel", "ruleKept", "I", false)
  | 40 => ("WallsOfPrisonersModel", "isThere", "[Z", true)
  | 41 => ("WallsOfPrisonersModel", "sorts", "[I", true)
  | 42 => ("WallsOfPrisonersModel", "sheetSize", "[I", true)
  | _ => ("WallsOfPrisonersModel", "items", "[I", true)
def tyX6 : Nat → FieldType := fun k => match k with
  | 0 => .int
  | 1 => .array .int
  | 2 => .array .int
  | 3 => .int
  | 4 => .int
  | 5 => .array .int
  | 6 => .int
  | 7 => .int
  | 8 => .int
  | 9 => .array .int
  | 10 => .int
  | 11 => .array .int
  | 12 => .int
  | 13 => .int
  | 14 => .int
  | 15 => .int
  | 16 => .int
  | 17 => .int
  | 18 => .int
  | 19 => .int
  | 20 => .int
  | 21 => .int
  | 22 => .int
  | 23 => .int
  | 24 => .long
  | 25 => .int
  | 26 => .boolean
  | 27 => .int
  | 28 => .array .int
  | 29 => .array .int
  | 30 => .array .int
  | 31 => .int
  | 32 => .int
  | 33 => .array .int
  | 34 => .array .int
  | 35 => .int
  | 36 => .int
  | 37 => .int
  | 38 => .int
  | 39 => .int
  | 40 => .array .boolean
  | 41 => .array .int
  | 42 => .array .int
  | _ => .array .int
abbrev wsX60 : List Cond := u_ws RX6 TX6 44
theorem nmX6 : ∀ a, a < 44 → ∀ b, b < 44 → a ≠ b → (TX6 a).2.1 ≠ (TX6 b).2.1 := by decide +kernel
theorem tyX6_ok : ∀ k, k < 44 → parseFieldDescriptor (TX6 k).2.2.1 = some (tyX6 k) := by decide +kernel
abbrev cX6_in : ByteArray := prog_8_method_2_code
def yX6_in : MethodName := ⟨RX6, "in", "(JJJ)Z"⟩
abbrev cX6_within : ByteArray := prog_8_method_3_code
def yX6_within : MethodName := ⟨RX6, "within", "(III)I"⟩
abbrev cX6_init : ByteArray := prog_8_method_4_code
def yX6_init : MethodName := ⟨RX6, "<init>", "()V"⟩
abbrev cX6_spell : ByteArray := prog_8_method_5_code
def yX6_spell : MethodName := ⟨RX6, "spell", "(IIIIIIIII)V"⟩
abbrev cX6_isOne : ByteArray := prog_8_method_6_code
def yX6_isOne : MethodName := ⟨RX6, "isOne", "(I)Z"⟩
abbrev cX6_areTwo : ByteArray := prog_8_method_7_code
def yX6_areTwo : MethodName := ⟨RX6, "areTwo", "(II)Z"⟩
abbrev cX6_isPlace : ByteArray := prog_8_method_8_code
def yX6_isPlace : MethodName := ⟨RX6, "isPlace", "(I)Z"⟩
abbrev cX6_isOf : ByteArray := prog_8_method_9_code
def yX6_isOf : MethodName := ⟨RX6, "isOf", "(II)Z"⟩
abbrev cX6_mostOf : ByteArray := prog_8_method_10_code
def yX6_mostOf : MethodName := ⟨RX6, "mostOf", "(I)I"⟩
abbrev cX6_set : ByteArray := prog_8_method_11_code
def yX6_set : MethodName := ⟨RX6, "set", "(III)I"⟩
abbrev cX6_lays : ByteArray := prog_8_method_12_code
def yX6_lays : MethodName := ⟨RX6, "lays", "(III)V"⟩
abbrev cX6_man : ByteArray := prog_8_method_13_code
def yX6_man : MethodName := ⟨RX6, "man", "(III)I"⟩
abbrev cX6_told : ByteArray := prog_8_method_14_code
def yX6_told : MethodName := ⟨RX6, "told", "(II)I"⟩
abbrev cX6_placeOf : ByteArray := prog_8_method_15_code
def yX6_placeOf : MethodName := ⟨RX6, "placeOf", "(I)I"⟩
abbrev cX6_feed : ByteArray := prog_8_method_16_code
def yX6_feed : MethodName := ⟨RX6, "feed", "(I)I"⟩
abbrev cX6_byteAt : ByteArray := prog_8_method_17_code
def yX6_byteAt : MethodName := ⟨RX6, "byteAt", "(I)I"⟩
abbrev cX6_next : ByteArray := prog_8_method_18_code
def yX6_next : MethodName := ⟨RX6, "next", "()V"⟩
abbrev cX6_fail : ByteArray := prog_8_method_19_code
def yX6_fail : MethodName := ⟨RX6, "fail", "()V"⟩
abbrev cX6_isLetter : ByteArray := prog_8_method_20_code
def yX6_isLetter : MethodName := ⟨RX6, "isLetter", "(II)Z"⟩
abbrev cX6_isWord : ByteArray := prog_8_method_21_code
def yX6_isWord : MethodName := ⟨RX6, "isWord", "(IIIIIIII)Z"⟩
abbrev cX6_isSign : ByteArray := prog_8_method_22_code
def yX6_isSign : MethodName := ⟨RX6, "isSign", "(I)Z"⟩
abbrev cX6_textOpens : ByteArray := prog_8_method_23_code
def yX6_textOpens : MethodName := ⟨RX6, "textOpens", "()Z"⟩
abbrev cX6_name : ByteArray := prog_8_method_24_code
def yX6_name : MethodName := ⟨RX6, "name", "()I"⟩
abbrev cX6_atom : ByteArray := prog_8_method_25_code
def yX6_atom : MethodName := ⟨RX6, "atom", "()I"⟩
abbrev cX6_term : ByteArray := prog_8_method_26_code
def yX6_term : MethodName := ⟨RX6, "term", "()I"⟩
abbrev cX6_added : ByteArray := prog_8_method_27_code
def yX6_added : MethodName := ⟨RX6, "added", "()I"⟩
abbrev cX6_not : ByteArray := prog_8_method_28_code
def yX6_not : MethodName := ⟨RX6, "not", "()I"⟩
abbrev cX6_both : ByteArray := prog_8_method_29_code
def yX6_both : MethodName := ⟨RX6, "both", "()I"⟩
abbrev cX6_either : ByteArray := prog_8_method_30_code
def yX6_either : MethodName := ⟨RX6, "either", "()I"⟩
abbrev cX6_part : ByteArray := prog_8_method_31_code
def yX6_part : MethodName := ⟨RX6, "part", "(Z)I"⟩
abbrev cX6_read : ByteArray := prog_8_method_32_code
def yX6_read : MethodName := ⟨RX6, "read", "(II)I"⟩
abbrev cX6_text : ByteArray := prog_8_method_33_code
def yX6_text : MethodName := ⟨RX6, "text", "()I"⟩
abbrev cX6_force : ByteArray := prog_8_method_34_code
def yX6_force : MethodName := ⟨RX6, "force", "(I)I"⟩
abbrev cX6_says : ByteArray := prog_8_method_35_code
def yX6_says : MethodName := ⟨RX6, "says", "(III)I"⟩
abbrev cX6_gripsOf : ByteArray := prog_8_method_36_code
def yX6_gripsOf : MethodName := ⟨RX6, "gripsOf", "(II)I"⟩
abbrev cX6_handsOf : ByteArray := prog_8_method_37_code
def yX6_handsOf : MethodName := ⟨RX6, "handsOf", "(II)I"⟩
abbrev cX6_spentOf : ByteArray := prog_8_method_38_code
def yX6_spentOf : MethodName := ⟨RX6, "spentOf", "(I)I"⟩
abbrev cX6_grips : ByteArray := prog_8_method_39_code
def yX6_grips : MethodName := ⟨RX6, "grips", "(II)I"⟩
abbrev cX6_hands : ByteArray := prog_8_method_40_code
def yX6_hands : MethodName := ⟨RX6, "hands", "(II)I"⟩
abbrev cX6_hold : ByteArray := prog_8_method_41_code
def yX6_hold : MethodName := ⟨RX6, "hold", "(I)I"⟩
abbrev cX6_weakest : ByteArray := prog_8_method_42_code
def yX6_weakest : MethodName := ⟨RX6, "weakest", "()I"⟩
abbrev cX6_gates : ByteArray := prog_8_method_43_code
def yX6_gates : MethodName := ⟨RX6, "gates", "()I"⟩
abbrev cX6_firstGate : ByteArray := prog_8_method_44_code
def yX6_firstGate : MethodName := ⟨RX6, "firstGate", "()I"⟩
abbrev cX6_wall : ByteArray := prog_8_method_45_code
def yX6_wall : MethodName := ⟨RX6, "wall", "(I)I"⟩
abbrev cX6_closesUp : ByteArray := prog_8_method_46_code
def yX6_closesUp : MethodName := ⟨RX6, "closesUp", "(I)V"⟩
abbrev cX6_stands : ByteArray := prog_8_method_47_code
def yX6_stands : MethodName := ⟨RX6, "stands", "(II)V"⟩
abbrev cX6_out : ByteArray := prog_8_method_48_code
def yX6_out : MethodName := ⟨RX6, "out", "(I)I"⟩
abbrev cX6_into : ByteArray := prog_8_method_49_code
def yX6_into : MethodName := ⟨RX6, "into", "(II)I"⟩
abbrev cX6_change : ByteArray := prog_8_method_50_code
def yX6_change : MethodName := ⟨RX6, "change", "(II)V"⟩
abbrev cX6_swap : ByteArray := prog_8_method_51_code
def yX6_swap : MethodName := ⟨RX6, "swap", "(II)I"⟩
abbrev cX6_passes : ByteArray := prog_8_method_52_code
def yX6_passes : MethodName := ⟨RX6, "passes", "()V"⟩
abbrev cX6_hour : ByteArray := prog_8_method_53_code
def yX6_hour : MethodName := ⟨RX6, "hour", "()I"⟩
abbrev cX6_sneeze : ByteArray := prog_8_method_54_code
def yX6_sneeze : MethodName := ⟨RX6, "sneeze", "(III)I"⟩
abbrev cX6_laysAside : ByteArray := prog_8_method_55_code
def yX6_laysAside : MethodName := ⟨RX6, "laysAside", "()V"⟩
abbrev cX6_laysBack : ByteArray := prog_8_method_56_code
def yX6_laysBack : MethodName := ⟨RX6, "laysBack", "()V"⟩
abbrev cX6_run : ByteArray := prog_8_method_57_code
def yX6_run : MethodName := ⟨RX6, "run", "(II)I"⟩
abbrev cX6_opens : ByteArray := prog_8_method_58_code
def yX6_opens : MethodName := ⟨RX6, "opens", "()I"⟩
abbrev cX6_digitsOf : ByteArray := prog_8_method_59_code
def yX6_digitsOf : MethodName := ⟨RX6, "digitsOf", "()I"⟩
abbrev cX6_orders : ByteArray := prog_8_method_60_code
def yX6_orders : MethodName := ⟨RX6, "orders", "(II)V"⟩
abbrev cX6_order : ByteArray := prog_8_method_61_code
def yX6_order : MethodName := ⟨RX6, "order", "(I)I"⟩
abbrev cX6_let : ByteArray := prog_8_method_62_code
def yX6_let : MethodName := ⟨RX6, "let", "(I)I"⟩
abbrev cX6_letsIn : ByteArray := prog_8_method_63_code
def yX6_letsIn : MethodName := ⟨RX6, "letsIn", "(II)I"⟩
abbrev cX6_shutBy : ByteArray := prog_8_method_64_code
def yX6_shutBy : MethodName := ⟨RX6, "shutBy", "(I)Z"⟩
abbrev cX6_swaps : ByteArray := prog_8_method_65_code
def yX6_swaps : MethodName := ⟨RX6, "swaps", "()I"⟩
abbrev cX6_lowest : ByteArray := prog_8_method_66_code
def yX6_lowest : MethodName := ⟨RX6, "lowest", "(JJI)J"⟩
abbrev cX6_mean : ByteArray := prog_8_method_67_code
def yX6_mean : MethodName := ⟨RX6, "mean", "(I)J"⟩
abbrev cX6_firstOther : ByteArray := prog_8_method_68_code
def yX6_firstOther : MethodName := ⟨RX6, "firstOther", "(I)I"⟩
abbrev cX6_tells : ByteArray := prog_8_method_69_code
def yX6_tells : MethodName := ⟨RX6, "tells", "(III)I"⟩
abbrev cX6_film : ByteArray := prog_8_method_70_code
def yX6_film : MethodName := ⟨RX6, "film", "(I)I"⟩
abbrev cX6_weakestDrawn : ByteArray := prog_8_method_71_code
def yX6_weakestDrawn : MethodName := ⟨RX6, "weakestDrawn", "(II)I"⟩
abbrev cX6_drawn : ByteArray := prog_8_method_72_code
def yX6_drawn : MethodName := ⟨RX6, "drawn", "(II)I"⟩
abbrev cX6_chance : ByteArray := prog_8_method_73_code
def yX6_chance : MethodName := ⟨RX6, "chance", "(IIII)J"⟩
abbrev cX6_image : ByteArray := prog_8_method_74_code
def yX6_image : MethodName := ⟨RX6, "image", "()I"⟩
abbrev cX6_back : ByteArray := prog_8_method_75_code
def yX6_back : MethodName := ⟨RX6, "back", "()I"⟩
abbrev cX6_count : ByteArray := prog_8_method_76_code
def yX6_count : MethodName := ⟨RX6, "count", "(I)I"⟩
abbrev cX6_isSheet : ByteArray := prog_8_method_77_code
def yX6_isSheet : MethodName := ⟨RX6, "isSheet", "(I)Z"⟩
abbrev cX6_sheet : ByteArray := prog_8_method_78_code
def yX6_sheet : MethodName := ⟨RX6, "sheet", "(III)I"⟩
abbrev cX6_cell : ByteArray := prog_8_method_79_code
def yX6_cell : MethodName := ⟨RX6, "cell", "(III)I"⟩
abbrev cX6_copy : ByteArray := prog_8_method_80_code
def yX6_copy : MethodName := ⟨RX6, "copy", "(IIIII)I"⟩
abbrev cX6_chain : ByteArray := prog_8_method_81_code
def yX6_chain : MethodName := ⟨RX6, "chain", "(IIII)I"⟩
abbrev cX6_over : ByteArray := prog_8_method_82_code
def yX6_over : MethodName := ⟨RX6, "over", "(I)I"⟩
abbrev cX6_taken : ByteArray := prog_8_method_83_code
def yX6_taken : MethodName := ⟨RX6, "taken", "(II)I"⟩
def RJ9 : String := "java/lang/Math"
def TJ9 : u_T := fun k => match k with
  | _ => ("", "", "", false)
def tyJ9 : Nat → FieldType := fun k => match k with
  | _ => .int
abbrev wsJ90 : List Cond := u_ws RJ9 TJ9 0
theorem nmJ9 : ∀ a, a < 0 → ∀ b, b < 0 → a ≠ b → (TJ9 a).2.1 ≠ (TJ9 b).2.1 := by decide +kernel
theorem tyJ9_ok : ∀ k, k < 0 → parseFieldDescriptor (TJ9 k).2.2.1 = some (tyJ9 k) := by decide +kernel
abbrev cJ9_max_7cf53 : ByteArray := prog_9_method_65_code
def yJ9_max_7cf53 : MethodName := ⟨RJ9, "max", "(II)I"⟩
abbrev cJ9_min_7cf53 : ByteArray := prog_9_method_69_code
def yJ9_min_7cf53 : MethodName := ⟨RJ9, "min", "(II)I"⟩
def RJ0 : String := "java/lang/String"
def TJ0 : u_T := fun k => match k with
  | _ => ("", "", "", false)
def tyJ0 : Nat → FieldType := fun k => match k with
  | _ => .int
abbrev wsJ00 : List Cond := u_ws RJ0 TJ0 0
theorem nmJ0 : ∀ a, a < 0 → ∀ b, b < 0 → a ≠ b → (TJ0 a).2.1 ≠ (TJ0 b).2.1 := by decide +kernel
theorem tyJ0_ok : ∀ k, k < 0 → parseFieldDescriptor (TJ0 k).2.2.1 = some (tyJ0 k) := by decide +kernel
abbrev cJ0_length_8abf5 : ByteArray := prog_10_method_54_code
def yJ0_length_8abf5 : MethodName := ⟨RJ0, "length", "()I"⟩
abbrev cJ0_charAt_5068e : ByteArray := prog_10_method_56_code
def yJ0_charAt_5068e : MethodName := ⟨RJ0, "charAt", "(I)C"⟩
abbrev cJ0_coder_7d493 : ByteArray := prog_10_method_152_code
def yJ0_coder_7d493 : MethodName := ⟨RJ0, "coder", "()B"⟩
abbrev cJ0_isLatin1_aae02 : ByteArray := prog_10_method_154_code
def yJ0_isLatin1_aae02 : MethodName := ⟨RJ0, "isLatin1", "()Z"⟩
abbrev cJ0_checkIndex_df160 : ByteArray := prog_10_method_155_code
def yJ0_checkIndex_df160 : MethodName := ⟨RJ0, "checkIndex", "(II)V"⟩
def RJ1 : String := "java/lang/StringLatin1"
def TJ1 : u_T := fun k => match k with
  | _ => ("", "", "", false)
def tyJ1 : Nat → FieldType := fun k => match k with
  | _ => .int
abbrev wsJ10 : List Cond := u_ws RJ1 TJ1 0
theorem nmJ1 : ∀ a, a < 0 → ∀ b, b < 0 → a ≠ b → (TJ1 a).2.1 ≠ (TJ1 b).2.1 := by decide +kernel
theorem tyJ1_ok : ∀ k, k < 0 → parseFieldDescriptor (TJ1 k).2.2.1 = some (tyJ1 k) := by decide +kernel
abbrev cJ1_charAt_3b067 : ByteArray := prog_11_method_2_code
def yJ1_charAt_3b067 : MethodName := ⟨RJ1, "charAt", "([BI)C"⟩
def RJ2 : String := "java/lang/StringUTF16"
def TJ2 : u_T := fun k => match k with
  | _ => ("", "", "", false)
def tyJ2 : Nat → FieldType := fun k => match k with
  | _ => .int
abbrev wsJ20 : List Cond := u_ws RJ2 TJ2 0
theorem nmJ2 : ∀ a, a < 0 → ∀ b, b < 0 → a ≠ b → (TJ2 a).2.1 ≠ (TJ2 b).2.1 := by decide +kernel
theorem tyJ2_ok : ∀ k, k < 0 → parseFieldDescriptor (TJ2 k).2.2.1 = some (tyJ2 k) := by decide +kernel
abbrev cJ2_getChar_3b067 : ByteArray := prog_12_method_5_code
def yJ2_getChar_3b067 : MethodName := ⟨RJ2, "getChar", "([BI)C"⟩
abbrev cJ2_length_9d52b : ByteArray := prog_12_method_6_code
def yJ2_length_9d52b : MethodName := ⟨RJ2, "length", "([B)I"⟩
abbrev cJ2_charAt_3b067 : ByteArray := prog_12_method_83_code
def yJ2_charAt_3b067 : MethodName := ⟨RJ2, "charAt", "([BI)C"⟩
abbrev cJ2_checkIndex_2214a : ByteArray := prog_12_method_91_code
def yJ2_checkIndex_2214a : MethodName := ⟨RJ2, "checkIndex", "(I[B)V"⟩
def RJ10 : String := "java/lang/System"
def TJ10 : u_T := fun k => match k with
  | _ => ("", "", "", false)
def tyJ10 : Nat → FieldType := fun k => match k with
  | _ => .int
abbrev wsJ100 : List Cond := u_ws RJ10 TJ10 0
theorem nmJ10 : ∀ a, a < 0 → ∀ b, b < 0 → a ≠ b → (TJ10 a).2.1 ≠ (TJ10 b).2.1 := by decide +kernel
theorem tyJ10_ok : ∀ k, k < 0 → parseFieldDescriptor (TJ10 k).2.2.1 = some (tyJ10 k) := by decide +kernel
def RJ3 : String := "jdk/internal/util/Preconditions"
def TJ3 : u_T := fun k => match k with
  | _ => ("", "", "", false)
def tyJ3 : Nat → FieldType := fun k => match k with
  | _ => .int
abbrev wsJ30 : List Cond := u_ws RJ3 TJ3 0
theorem nmJ3 : ∀ a, a < 0 → ∀ b, b < 0 → a ≠ b → (TJ3 a).2.1 ≠ (TJ3 b).2.1 := by decide +kernel
theorem tyJ3_ok : ∀ k, k < 0 → parseFieldDescriptor (TJ3 k).2.2.1 = some (tyJ3 k) := by decide +kernel
abbrev cJ3_checkIndex_8e157 : ByteArray := prog_14_method_11_code
def yJ3_checkIndex_8e157 : MethodName := ⟨RJ3, "checkIndex", "(IILjava/util/function/BiFunction;)I"⟩
def RL : String := "WallsOfPrisonersLaw"
abbrev cL_law : ByteArray := code
def yL_law : MethodName := ⟨RL, "law", "([I)Z"⟩
def wsL_law_r1 : List Cond := [Cond.classLink RL 7 RX5, Cond.instantiable RX5 8, Cond.initialized RX5, Cond.classLink RL 10 RX6, Cond.instantiable RX6 44, Cond.initialized RX6, Cond.methodLink RL 9 yX5_init, Cond.instanceMethod yX5_init, Cond.code yX5_init cX5_init 3 none, Cond.methodLink RX5 3 objectInit, Cond.instanceMethod objectInit, Cond.code objectInit ⟨#[0xb1]⟩ 1 none, Cond.classLink RX5 9 RX4, Cond.instantiable RX4 5, Cond.initialized RX4, Cond.fieldLink RX5 12 "WallsOfPrisoners" "texts" "LWallsOfPrisoners$Texts;", Cond.classLink RX5 16 RX2, Cond.instantiable RX2 7, Cond.initialized RX2, Cond.fieldLink RX5 21 "WallsOfPrisoners" "reader" "LWallsOfPrisoners$Reader;", Cond.classLink RX5 25 RX0, Cond.instantiable RX0 10, Cond.initialized RX0, Cond.fieldLink RX5 28 "WallsOfPrisoners" "marsh" "LWallsOfPrisoners$Marsh;"]
def wsL_law_r2 : List Cond := [Cond.fieldLink RX5 32 "WallsOfPrisoners" "thought" "LWallsOfPrisoners$Marsh;", Cond.fieldLink RX5 35 "WallsOfPrisoners" "kept" "LWallsOfPrisoners$Marsh;", Cond.classLink RX5 38 RX1, Cond.instantiable RX1 6, Cond.initialized RX1, Cond.fieldLink RX5 41 "WallsOfPrisoners" "orders" "LWallsOfPrisoners$Orders;", Cond.classLink RX5 45 RX3, Cond.fieldLink RX5 47 "WallsOfPrisoners" "sheets" "[LWallsOfPrisoners$Sheet;", Cond.instantiable RX3 3, Cond.initialized RX3, Cond.instanceMethod yX4_init, Cond.code yX4_init cX4_init 1 none, Cond.methodLink RX4 3 objectInit, Cond.arrayClass .int, Cond.fieldLink RX4 9 "WallsOfPrisoners$Texts" "codes" "[I", Cond.fieldLink RX4 15 "WallsOfPrisoners$Texts" "ends" "[I", Cond.fieldLink RX4 18 "WallsOfPrisoners$Texts" "stack" "[I", Cond.methodLink RX5 18 yX2_init, Cond.instanceMethod yX2_init, Cond.code yX2_init cX2_init 2 none, Cond.methodLink RX2 3 objectInit, Cond.fieldLink RX2 9 "WallsOfPrisoners$Reader" "tape" "[I", Cond.fieldLink RX2 15 "WallsOfPrisoners$Reader" "texts" "LWallsOfPrisoners$Texts;", Cond.methodLink RX5 27 yX0_init]
def wsL_law_r3 : List Cond := [Cond.instanceMethod yX0_init, Cond.code yX0_init cX0_init 2 none, Cond.methodLink RX0 3 objectInit, Cond.fieldLink RX0 9 "WallsOfPrisoners$Marsh" "kind" "[I", Cond.fieldLink RX0 15 "WallsOfPrisoners$Marsh" "number" "[I", Cond.fieldLink RX0 18 "WallsOfPrisoners$Marsh" "strength" "[I", Cond.fieldLink RX0 21 "WallsOfPrisoners$Marsh" "ring" "[I", Cond.fieldLink RX0 24 "WallsOfPrisoners$Marsh" "texts" "LWallsOfPrisoners$Texts;", Cond.instanceMethod yX1_init, Cond.code yX1_init cX1_init 1 none, Cond.methodLink RX1 3 objectInit, Cond.fieldLink RX1 9 "WallsOfPrisoners$Orders" "hardness" "[I", Cond.fieldLink RX1 15 "WallsOfPrisoners$Orders" "ring" "[I", Cond.fieldLink RX1 18 "WallsOfPrisoners$Orders" "atFirst" "[I", Cond.fieldLink RX1 21 "WallsOfPrisoners$Orders" "best" "[I", Cond.instanceMethod yX3_init, Cond.code yX3_init cX3_init 1 none, Cond.methodLink RX3 3 objectInit, Cond.fieldLink RX3 9 "WallsOfPrisoners$Sheet" "row" "[I", Cond.fieldLink RX3 15 "WallsOfPrisoners$Sheet" "sort" "I", Cond.methodLink RX5 54 yJ0_length_8abf5, Cond.instanceMethod yJ0_length_8abf5, Cond.selects RJ0 yJ0_length_8abf5 yJ0_length_8abf5, Cond.initialized RJ0]
def wsL_law_r4 : List Cond := [Cond.code yJ0_length_8abf5 cJ0_length_8abf5 1 (some .int), Cond.fieldLink RJ0 9 "java/lang/String" "value" "[B", Cond.methodLink RJ0 335 yJ0_coder_7d493, Cond.instanceMethod yJ0_coder_7d493, Cond.selects RJ0 yJ0_coder_7d493 yJ0_coder_7d493, Cond.code yJ0_coder_7d493 cJ0_coder_7d493 1 (some .byte), Cond.fieldLink RJ0 38 "java/lang/String" "COMPACT_STRINGS" "Z", Cond.fieldLink RJ0 15 "java/lang/String" "coder" "B", Cond.methodLink RX5 60 yJ0_charAt_5068e, Cond.instanceMethod yJ0_charAt_5068e, Cond.selects RJ0 yJ0_charAt_5068e yJ0_charAt_5068e, Cond.code yJ0_charAt_5068e cJ0_charAt_5068e 2 (some .char), Cond.methodLink RJ0 492 yJ0_isLatin1_aae02, Cond.instanceMethod yJ0_isLatin1_aae02, Cond.selects RJ0 yJ0_isLatin1_aae02 yJ0_isLatin1_aae02, Cond.code yJ0_isLatin1_aae02 cJ0_isLatin1_aae02 1 (some .boolean), Cond.methodLink RJ0 495 yJ1_charAt_3b067, Cond.static yJ1_charAt_3b067, Cond.initialized RJ1, Cond.code yJ1_charAt_3b067 cJ1_charAt_3b067 2 (some .char), Cond.methodLink RJ1 9 yJ0_checkIndex_df160, Cond.static yJ0_checkIndex_df160, Cond.code yJ0_checkIndex_df160 cJ0_checkIndex_df160 2 none, Cond.fieldLink RJ0 1053 "jdk/internal/util/Preconditions" "SIOOBE_FORMATTER" "Ljava/util/function/BiFunction;"]
def wsL_law_r5 : List Cond := [Cond.methodLink RJ0 1059 yJ3_checkIndex_8e157, Cond.static yJ3_checkIndex_8e157, Cond.initialized RJ3, Cond.code yJ3_checkIndex_8e157 cJ3_checkIndex_8e157 3 (some .int), Cond.methodLink RJ0 498 yJ2_charAt_3b067, Cond.static yJ2_charAt_3b067, Cond.initialized RJ2, Cond.code yJ2_charAt_3b067 cJ2_charAt_3b067 2 (some .char), Cond.methodLink RJ2 67 yJ2_checkIndex_2214a, Cond.static yJ2_checkIndex_2214a, Cond.code yJ2_checkIndex_2214a cJ2_checkIndex_2214a 2 none, Cond.methodLink RJ2 48 yJ2_length_9d52b, Cond.static yJ2_length_9d52b, Cond.code yJ2_length_9d52b cJ2_length_9d52b 1 (some .int), Cond.methodLink RJ2 414 yJ0_checkIndex_df160, Cond.methodLink RJ2 71 yJ2_getChar_3b067, Cond.static yJ2_getChar_3b067, Cond.code yJ2_getChar_3b067 cJ2_getChar_3b067 2 (some .char), Cond.fieldLink RJ2 44 "java/lang/StringUTF16" "$assertionsDisabled" "Z", Cond.fieldLink RJ2 59 "java/lang/StringUTF16" "HI_BYTE_SHIFT" "I", Cond.fieldLink RJ2 63 "java/lang/StringUTF16" "LO_BYTE_SHIFT" "I", Cond.methodLink RX5 64 yX2_add, Cond.instanceMethod yX2_add, Cond.selects RX2 yX2_add yX2_add]
def wsL_law_r6 : List Cond := [Cond.code yX2_add cX2_add 2 (some .boolean), Cond.fieldLink RX2 19 "WallsOfPrisoners$Reader" "size" "I", Cond.methodLink RX5 68 yX2_read, Cond.instanceMethod yX2_read, Cond.selects RX2 yX2_read yX2_read, Cond.code yX2_read cX2_read 3 (some .int), Cond.fieldLink RX2 23 "WallsOfPrisoners$Reader" "at" "I", Cond.fieldLink RX2 38 "WallsOfPrisoners$Reader" "token" "I", Cond.fieldLink RX2 41 "WallsOfPrisoners$Texts" "many" "I", Cond.fieldLink RX2 44 "WallsOfPrisoners$Reader" "start" "I", Cond.methodLink RX2 26 yX4_begin, Cond.instanceMethod yX4_begin, Cond.selects RX4 yX4_begin yX4_begin, Cond.code yX4_begin cX4_begin 1 none, Cond.fieldLink RX4 21 "WallsOfPrisoners$Texts" "many" "I", Cond.fieldLink RX4 25 "WallsOfPrisoners$Texts" "written" "I", Cond.methodLink RX2 31 yX2_advance, Cond.instanceMethod yX2_advance, Cond.selects RX2 yX2_advance yX2_advance, Cond.code yX2_advance cX2_advance 2 none, Cond.methodLink RX2 84 yX2_letterAt, Cond.instanceMethod yX2_letterAt, Cond.selects RX2 yX2_letterAt yX2_letterAt, Cond.code yX2_letterAt cX2_letterAt 2 (some .int)]
def wsL_law_r7 : List Cond := [Cond.methodLink RX2 88 yX2_isDigit, Cond.static yX2_isDigit, Cond.code yX2_isDigit cX2_isDigit 1 (some .boolean), Cond.methodLink RX2 91 yX2_readDigits, Cond.instanceMethod yX2_readDigits, Cond.selects RX2 yX2_readDigits yX2_readDigits, Cond.code yX2_readDigits cX2_readDigits 2 none, Cond.fieldLink RX2 75 "WallsOfPrisoners$Reader" "worth" "I", Cond.methodLink RX2 94 yX2_isSmall, Cond.static yX2_isSmall, Cond.code yX2_isSmall cX2_isSmall 1 (some .boolean), Cond.methodLink RX2 97 yX2_readWord, Cond.instanceMethod yX2_readWord, Cond.selects RX2 yX2_readWord yX2_readWord, Cond.code yX2_readWord cX2_readWord 2 none, Cond.methodLink RX2 103 yX2_word, Cond.static yX2_word, Cond.code yX2_word cX2_word 1 (some (.object "java/lang/String")), Cond.methodLink RX2 107 yX2_isHere, Cond.instanceMethod yX2_isHere, Cond.selects RX2 yX2_isHere yX2_isHere, Cond.code yX2_isHere cX2_isHere 3 (some .boolean), Cond.methodLink RX2 111 yJ0_length_8abf5, Cond.methodLink RX2 117 yJ0_charAt_5068e]
def wsL_law_r8 : List Cond := [Cond.methodLink RX2 100 yX2_isSign, Cond.static yX2_isSign, Cond.code yX2_isSign cX2_isSign 1 (some .boolean), Cond.methodLink RX2 34 yX2_readPart, Cond.instanceMethod yX2_readPart, Cond.selects RX2 yX2_readPart yX2_readPart, Cond.code yX2_readPart cX2_readPart 2 (some .boolean), Cond.methodLink RX2 47 yX2_readEither, Cond.instanceMethod yX2_readEither, Cond.selects RX2 yX2_readEither yX2_readEither, Cond.code yX2_readEither cX2_readEither 4 (some .boolean), Cond.methodLink RX2 54 yX2_readBoth, Cond.instanceMethod yX2_readBoth, Cond.selects RX2 yX2_readBoth yX2_readBoth, Cond.methodLink RX2 57 yX4_put, Cond.instanceMethod yX4_put, Cond.selects RX4 yX4_put yX4_put, Cond.code yX4_put cX4_put 2 none, Cond.code yX2_readBoth cX2_readBoth 4 (some .boolean), Cond.methodLink RX2 60 yX2_readDenial, Cond.instanceMethod yX2_readDenial, Cond.selects RX2 yX2_readDenial yX2_readDenial, Cond.code yX2_readBrackets cX2_readBrackets 2 (some .boolean), Cond.code yX2_readComparison cX2_readComparison 4 (some .boolean)]
def wsL_law_r9 : List Cond := [Cond.methodLink RX2 66 yX2_readSum, Cond.instanceMethod yX2_readSum, Cond.selects RX2 yX2_readSum yX2_readSum, Cond.code yX2_readDenial cX2_readDenial 3 (some .boolean), Cond.methodLink RX2 63 yX2_readComparison, Cond.instanceMethod yX2_readComparison, Cond.selects RX2 yX2_readComparison yX2_readComparison, Cond.code yX2_readNegation cX2_readNegation 3 (some .boolean), Cond.methodLink RX2 72 yX2_readOne, Cond.instanceMethod yX2_readOne, Cond.selects RX2 yX2_readOne yX2_readOne, Cond.code yX2_readOne cX2_readOne 2 (some .boolean), Cond.methodLink RX2 78 yX2_readNegation, Cond.instanceMethod yX2_readNegation, Cond.selects RX2 yX2_readNegation yX2_readNegation, Cond.methodLink RX2 81 yX2_readBrackets, Cond.instanceMethod yX2_readBrackets, Cond.selects RX2 yX2_readBrackets yX2_readBrackets, Cond.code yX2_readSum cX2_readSum 5 (some .boolean), Cond.methodLink RX2 69 yX2_readTerm, Cond.instanceMethod yX2_readTerm, Cond.selects RX2 yX2_readTerm yX2_readTerm, Cond.code yX2_readTerm cX2_readTerm 4 (some .boolean), Cond.methodLink RX2 50 yX4_endPart]
def wsL_law_r10 : List Cond := [Cond.instanceMethod yX4_endPart, Cond.selects RX4 yX4_endPart yX4_endPart, Cond.code yX4_endPart cX4_endPart 3 none, Cond.methodLink RL 12 yX6_init, Cond.instanceMethod yX6_init, Cond.code yX6_init cX6_init 1 none, Cond.methodLink RX6 7 objectInit, Cond.fieldLink RX6 13 "WallsOfPrisonersModel" "texts" "[I", Cond.fieldLink RX6 17 "WallsOfPrisonersModel" "textSize" "[I", Cond.fieldLink RX6 20 "WallsOfPrisonersModel" "tape" "[I", Cond.fieldLink RX6 23 "WallsOfPrisonersModel" "rows" "[I", Cond.fieldLink RX6 26 "WallsOfPrisonersModel" "ring" "[I", Cond.fieldLink RX6 29 "WallsOfPrisonersModel" "spent" "[I", Cond.fieldLink RX6 32 "WallsOfPrisonersModel" "was" "[I", Cond.fieldLink RX6 35 "WallsOfPrisonersModel" "ringWas" "[I", Cond.fieldLink RX6 38 "WallsOfPrisonersModel" "rowsKept" "[I", Cond.fieldLink RX6 41 "WallsOfPrisonersModel" "ringKept" "[I", Cond.fieldLink RX6 44 "WallsOfPrisonersModel" "menKept" "I", Cond.arrayClass .boolean, Cond.fieldLink RX6 47 "WallsOfPrisonersModel" "isThere" "[Z", Cond.fieldLink RX6 51 "WallsOfPrisonersModel" "sorts" "[I", Cond.fieldLink RX6 54 "WallsOfPrisonersModel" "sheetSize" "[I", Cond.fieldLink RX6 57 "WallsOfPrisonersModel" "items" "[I", Cond.fieldLink RX6 64 "WallsOfPrisonersModel" "textCount" "I"]
def wsL_law_r11 : List Cond := [Cond.methodLink RX6 60 yX6_spell, Cond.instanceMethod yX6_spell, Cond.selects RX6 yX6_spell yX6_spell, Cond.code yX6_spell cX6_spell 10 none, Cond.methodLink RL 13 yX5_set, Cond.instanceMethod yX5_set, Cond.selects RX5 yX5_set yX5_set, Cond.code yX5_set cX5_set 5 (some .int), Cond.methodLink RX5 71 yX5_greatest, Cond.static yX5_greatest, Cond.code yX5_greatest cX5_greatest 1 (some .int), Cond.methodLink RX5 75 yX0_has, Cond.instanceMethod yX0_has, Cond.selects RX0 yX0_has yX0_has, Cond.code yX0_has cX0_has 2 (some .boolean), Cond.fieldLink RX0 34 "WallsOfPrisoners$Marsh" "men" "I", Cond.methodLink RX5 78 yX0_trait, Cond.instanceMethod yX0_trait, Cond.selects RX0 yX0_trait yX0_trait, Cond.code yX0_trait cX0_trait 3 (some .int), Cond.fieldLink RX0 41 "WallsOfPrisoners$Marsh" "hour" "I", Cond.fieldLink RX0 44 "WallsOfPrisoners$Marsh" "cold" "I", Cond.methodLink RX0 54 yX0_has, Cond.methodLink RX5 82 yX0_suppose]
def wsL_law_r12 : List Cond := [Cond.instanceMethod yX0_suppose, Cond.selects RX0 yX0_suppose yX0_suppose, Cond.code yX0_suppose cX0_suppose 5 none, Cond.fieldLink RX0 47 "WallsOfPrisoners$Marsh" "rule" "I", Cond.methodLink RL 17 yX6_set, Cond.instanceMethod yX6_set, Cond.selects RX6 yX6_set yX6_set, Cond.code yX6_set cX6_set 5 (some .int), Cond.constantLong RX6 84 (3), Cond.methodLink RX6 70 yX6_in, Cond.static yX6_in, Cond.code yX6_in cX6_in 6 (some .boolean), Cond.methodLink RX6 86 yX6_isOf, Cond.instanceMethod yX6_isOf, Cond.selects RX6 yX6_isOf yX6_isOf, Cond.code yX6_isOf cX6_isOf 3 (some .boolean), Cond.fieldLink RX6 78 "WallsOfPrisonersModel" "size" "I", Cond.methodLink RX6 74 yX6_isOne, Cond.instanceMethod yX6_isOne, Cond.selects RX6 yX6_isOne yX6_isOne, Cond.code yX6_isOne cX6_isOne 2 (some .boolean), Cond.fieldLink RX6 67 "WallsOfPrisonersModel" "men" "I", Cond.methodLink RX6 81 yX6_isPlace, Cond.instanceMethod yX6_isPlace]
def wsL_law_r13 : List Cond := [Cond.selects RX6 yX6_isPlace yX6_isPlace, Cond.code yX6_isPlace cX6_isPlace 2 (some .boolean), Cond.methodLink RX6 90 yX6_mostOf, Cond.static yX6_mostOf, Cond.code yX6_mostOf cX6_mostOf 1 (some .int), Cond.methodLink RX6 94 yX6_told, Cond.instanceMethod yX6_told, Cond.selects RX6 yX6_told yX6_told, Cond.code yX6_told cX6_told 3 (some .int), Cond.constantLong RX6 117 (8), Cond.fieldLink RX6 102 "WallsOfPrisonersModel" "hourNow" "I", Cond.fieldLink RX6 105 "WallsOfPrisonersModel" "cold" "I", Cond.methodLink RX6 119 yX6_placeOf, Cond.instanceMethod yX6_placeOf, Cond.selects RX6 yX6_placeOf yX6_placeOf, Cond.code yX6_placeOf cX6_placeOf 4 (some .int), Cond.methodLink RX6 122 yX6_spentOf, Cond.instanceMethod yX6_spentOf, Cond.selects RX6 yX6_spentOf yX6_spentOf, Cond.code yX6_spentOf cX6_spentOf 4 (some .int), Cond.methodLink RX6 250 yX6_says, Cond.instanceMethod yX6_says, Cond.selects RX6 yX6_says yX6_says, Cond.code yX6_says cX6_says 4 (some .int)]
def wsL_law_r14 : List Cond := [Cond.fieldLink RX6 188 "WallsOfPrisonersModel" "ofStrength" "I", Cond.fieldLink RX6 191 "WallsOfPrisonersModel" "ofNext" "I", Cond.fieldLink RX6 194 "WallsOfPrisonersModel" "ofNumber" "I", Cond.fieldLink RX6 197 "WallsOfPrisonersModel" "ofHour" "I", Cond.fieldLink RX6 200 "WallsOfPrisonersModel" "ofCold" "I", Cond.fieldLink RX6 203 "WallsOfPrisonersModel" "ofMany" "I", Cond.fieldLink RX6 108 "WallsOfPrisonersModel" "rule" "I", Cond.methodLink RX6 243 yX6_read, Cond.instanceMethod yX6_read, Cond.selects RX6 yX6_read yX6_read, Cond.code yX6_read cX6_read 6 (some .int), Cond.fieldLink RX6 136 "WallsOfPrisonersModel" "from" "I", Cond.fieldLink RX6 133 "WallsOfPrisonersModel" "textEnd" "I", Cond.fieldLink RX6 139 "WallsOfPrisonersModel" "here" "I", Cond.fieldLink RX6 175 "WallsOfPrisonersModel" "open" "I", Cond.fieldLink RX6 165 "WallsOfPrisonersModel" "bad" "Z", Cond.fieldLink RX6 148 "WallsOfPrisonersModel" "token" "I", Cond.methodLink RX6 181 yX6_next, Cond.instanceMethod yX6_next, Cond.selects RX6 yX6_next yX6_next, Cond.code yX6_next cX6_next 3 none, Cond.fieldLink RX6 145 "WallsOfPrisonersModel" "tokenAt" "I", Cond.constantLong RX6 151 (97), Cond.constantLong RX6 153 (122)]
def wsL_law_r15 : List Cond := [Cond.constantLong RX6 155 (48), Cond.constantLong RX6 157 (57), Cond.fieldLink RX6 159 "WallsOfPrisonersModel" "tokenWorth" "J", Cond.constantLong RX6 163 (10), Cond.methodLink RX6 142 yX6_byteAt, Cond.instanceMethod yX6_byteAt, Cond.selects RX6 yX6_byteAt yX6_byteAt, Cond.code yX6_byteAt cX6_byteAt 2 (some .int), Cond.methodLink RX6 184 yX6_isWord, Cond.instanceMethod yX6_isWord, Cond.selects RX6 yX6_isWord yX6_isWord, Cond.code yX6_isWord cX6_isWord 9 (some .boolean), Cond.methodLink RX6 172 yX6_isLetter, Cond.instanceMethod yX6_isLetter, Cond.selects RX6 yX6_isLetter yX6_isLetter, Cond.code yX6_isLetter cX6_isLetter 3 (some .boolean), Cond.methodLink RX6 239 yX6_part, Cond.instanceMethod yX6_part, Cond.selects RX6 yX6_part yX6_part, Cond.code yX6_part cX6_part 3 (some .int), Cond.methodLink RX6 178 yX6_fail, Cond.instanceMethod yX6_fail, Cond.selects RX6 yX6_fail yX6_fail, Cond.code yX6_fail cX6_fail 1 none]
def wsL_law_r16 : List Cond := [Cond.fieldLink RX6 169 "WallsOfPrisonersModel" "fault" "I", Cond.methodLink RX6 217 yX6_either, Cond.instanceMethod yX6_either, Cond.selects RX6 yX6_either yX6_either, Cond.code yX6_either cX6_either 3 (some .int), Cond.methodLink RX6 236 yX6_both, Cond.instanceMethod yX6_both, Cond.selects RX6 yX6_both yX6_both, Cond.code yX6_added cX6_added 4 (some .int), Cond.constantLong RX6 226 (43), Cond.methodLink RX6 223 yX6_term, Cond.instanceMethod yX6_term, Cond.selects RX6 yX6_term yX6_term, Cond.methodLink RX6 206 yX6_isSign, Cond.instanceMethod yX6_isSign, Cond.selects RX6 yX6_isSign yX6_isSign, Cond.code yX6_isSign cX6_isSign 2 (some .boolean), Cond.code yX6_atom cX6_atom 2 (some .int), Cond.methodLink RX6 209 yX6_textOpens, Cond.instanceMethod yX6_textOpens, Cond.selects RX6 yX6_textOpens yX6_textOpens, Cond.code yX6_textOpens cX6_textOpens 1 (some .boolean), Cond.methodLink RX6 213 yX6_atom, Cond.instanceMethod yX6_atom]
def wsL_law_r17 : List Cond := [Cond.selects RX6 yX6_atom yX6_atom, Cond.methodLink RX6 220 yX6_name, Cond.instanceMethod yX6_name, Cond.selects RX6 yX6_name yX6_name, Cond.code yX6_name cX6_name 1 (some .int), Cond.code yX6_both cX6_both 3 (some .int), Cond.methodLink RX6 228 yX6_not, Cond.instanceMethod yX6_not, Cond.selects RX6 yX6_not yX6_not, Cond.code yX6_not cX6_not 4 (some .int), Cond.constantLong RX6 234 (60), Cond.methodLink RX6 231 yX6_added, Cond.instanceMethod yX6_added, Cond.selects RX6 yX6_added yX6_added, Cond.code yX6_term cX6_term 2 (some .int), Cond.methodLink RX6 246 yX6_within, Cond.static yX6_within, Cond.code yX6_within cX6_within 3 (some .int), Cond.methodLink RX6 125 yX6_hold, Cond.instanceMethod yX6_hold, Cond.selects RX6 yX6_hold yX6_hold, Cond.code yX6_hold cX6_hold 6 (some .int), Cond.methodLink RX6 256 yX6_gripsOf, Cond.instanceMethod yX6_gripsOf]
def wsL_law_r18 : List Cond := [Cond.selects RX6 yX6_gripsOf yX6_gripsOf, Cond.code yX6_gripsOf cX6_gripsOf 8 (some .int), Cond.methodLink RX6 98 yX6_lays, Cond.instanceMethod yX6_lays, Cond.selects RX6 yX6_lays yX6_lays, Cond.code yX6_lays cX6_lays 4 none, Cond.methodLink RL 18 yX5_man, Cond.instanceMethod yX5_man, Cond.selects RX5 yX5_man yX5_man, Cond.code yX5_man cX5_man 4 (some .int), Cond.methodLink RX5 86 yX0_join, Cond.instanceMethod yX0_join, Cond.selects RX0 yX0_join yX0_join, Cond.code yX0_join cX0_join 5 (some .int), Cond.fieldLink RX0 38 "WallsOfPrisoners$Marsh" "standing" "I", Cond.methodLink RX0 50 yX0_enter, Cond.instanceMethod yX0_enter, Cond.selects RX0 yX0_enter yX0_enter, Cond.code yX0_enter cX0_enter 4 none, Cond.methodLink RL 21 yX6_man, Cond.instanceMethod yX6_man, Cond.selects RX6 yX6_man yX6_man, Cond.code yX6_man cX6_man 4 (some .int), Cond.constantLong RX6 111 (5)]
def wsL_law_r19 : List Cond := [Cond.constantLong RX6 113 (9), Cond.constantLong RX6 115 (99), Cond.methodLink RL 22 yX5_told, Cond.instanceMethod yX5_told, Cond.selects RX5 yX5_told yX5_told, Cond.code yX5_told cX5_told 3 (some .int), Cond.methodLink RX5 90 yX0_placeOf, Cond.instanceMethod yX0_placeOf, Cond.selects RX0 yX0_placeOf yX0_placeOf, Cond.code yX0_placeOf cX0_placeOf 3 (some .int), Cond.methodLink RX5 93 yX0_spentBy, Cond.instanceMethod yX0_spentBy, Cond.selects RX0 yX0_spentBy yX0_spentBy, Cond.code yX0_spentBy cX0_spentBy 3 (some .int), Cond.methodLink RX0 95 yX4_value, Cond.instanceMethod yX4_value, Cond.selects RX4 yX4_value yX4_value, Cond.code yX4_value cX4_value 12 (some .int), Cond.fieldLink RX4 28 "WallsOfPrisoners$Marsh" "rule" "I", Cond.methodLink RX4 33 Lib.Math.min.name, Cond.static Lib.Math.min.name, Cond.initialized "java/lang/Math", Cond.code Lib.Math.min.name Lib.Math.min.code 2 (some .int), Cond.methodLink RX4 39 yX0_named]
def wsL_law_r20 : List Cond := [Cond.instanceMethod yX0_named, Cond.selects RX0 yX0_named yX0_named, Cond.code yX0_named cX0_named 4 (some .int), Cond.methodLink RX4 43 yX4_done, Cond.static yX4_done, Cond.code yX4_done cX4_done 3 (some .int), Cond.static yX5_bounded, Cond.code yX5_bounded cX5_bounded 1 (some .int), Cond.methodLink RX5 96 yX0_who, Cond.instanceMethod yX0_who, Cond.selects RX0 yX0_who yX0_who, Cond.code yX0_who cX0_who 2 (some .int), Cond.methodLink RX5 99 yX0_holds, Cond.instanceMethod yX0_holds, Cond.selects RX0 yX0_holds yX0_holds, Cond.code yX0_holds cX0_holds 1 (some .int), Cond.methodLink RX5 102 yX0_holdFrom, Cond.instanceMethod yX0_holdFrom, Cond.selects RX0 yX0_holdFrom yX0_holdFrom, Cond.code yX0_holdFrom cX0_holdFrom 4 (some .int), Cond.methodLink RX0 77 Lib.Math.min.name, Cond.methodLink RX0 58 yX0_who, Cond.methodLink RX0 71 yX0_placeBehind, Cond.instanceMethod yX0_placeBehind]
def wsL_law_r21 : List Cond := [Cond.selects RX0 yX0_placeBehind yX0_placeBehind, Cond.code yX0_placeBehind cX0_placeBehind 2 (some .int), Cond.methodLink RX0 74 yX0_gripOf, Cond.instanceMethod yX0_gripOf, Cond.selects RX0 yX0_gripOf yX0_gripOf, Cond.code yX0_gripOf cX0_gripOf 5 (some .int), Cond.methodLink RX0 104 yX0_asBrother, Cond.instanceMethod yX0_asBrother, Cond.selects RX0 yX0_asBrother yX0_asBrother, Cond.code yX0_asBrother cX0_asBrother 3 (some .int), Cond.static yX5_isUnder, Cond.code yX5_isUnder cX5_isUnder 4 (some .boolean), Cond.fieldLink RX5 227 "WallsOfPrisoners" "KIND_ABOVE" "[I", Cond.methodLink RL 26 yX6_told, Cond.methodLink RL 27 yX5_grips, Cond.instanceMethod yX5_grips, Cond.selects RX5 yX5_grips yX5_grips, Cond.code yX5_grips cX5_grips 3 (some .int), Cond.methodLink RX5 105 yX0_gripOf, Cond.methodLink RL 30 yX6_grips, Cond.instanceMethod yX6_grips, Cond.selects RX6 yX6_grips yX6_grips, Cond.code yX6_grips cX6_grips 3 (some .int), Cond.methodLink RX6 253 yX6_areTwo]
def wsL_law_r22 : List Cond := [Cond.instanceMethod yX6_areTwo, Cond.selects RX6 yX6_areTwo yX6_areTwo, Cond.code yX6_areTwo cX6_areTwo 3 (some .boolean), Cond.methodLink RL 31 yX5_hands, Cond.instanceMethod yX5_hands, Cond.selects RX5 yX5_hands yX5_hands, Cond.code yX5_hands cX5_hands 3 (some .int), Cond.methodLink RX5 108 yX0_handedOn, Cond.instanceMethod yX0_handedOn, Cond.selects RX0 yX0_handedOn yX0_handedOn, Cond.code yX0_handedOn cX0_handedOn 4 (some .int), Cond.methodLink RL 34 yX6_hands, Cond.instanceMethod yX6_hands, Cond.selects RX6 yX6_hands yX6_hands, Cond.code yX6_hands cX6_hands 3 (some .int), Cond.methodLink RX6 259 yX6_handsOf, Cond.instanceMethod yX6_handsOf, Cond.selects RX6 yX6_handsOf yX6_handsOf, Cond.code yX6_handsOf cX6_handsOf 5 (some .int), Cond.methodLink RL 35 yX5_feed, Cond.instanceMethod yX5_feed, Cond.selects RX5 yX5_feed yX5_feed, Cond.code yX5_feed cX5_feed 2 (some .int), Cond.fieldLink RX5 111 "WallsOfPrisoners$Reader" "size" "I"]
def wsL_law_r23 : List Cond := [Cond.methodLink RL 39 yX6_feed, Cond.instanceMethod yX6_feed, Cond.selects RX6 yX6_feed yX6_feed, Cond.code yX6_feed cX6_feed 2 (some .int), Cond.constantLong RX6 128 (255), Cond.fieldLink RX6 130 "WallsOfPrisonersModel" "taped" "I", Cond.methodLink RL 40 yX5_text, Cond.instanceMethod yX5_text, Cond.selects RX5 yX5_text yX5_text, Cond.code yX5_text cX5_text 2 (some .int), Cond.fieldLink RX5 115 "WallsOfPrisoners$Texts" "many" "I", Cond.methodLink RL 44 yX6_text, Cond.instanceMethod yX6_text, Cond.selects RX6 yX6_text yX6_text, Cond.code yX6_text cX6_text 2 (some .int), Cond.methodLink RL 45 yX5_force, Cond.instanceMethod yX5_force, Cond.selects RX5 yX5_force yX5_force, Cond.code yX5_force cX5_force 3 (some .int), Cond.fieldLink RX5 118 "WallsOfPrisoners$Marsh" "rule" "I", Cond.methodLink RL 48 yX6_force, Cond.instanceMethod yX6_force, Cond.selects RX6 yX6_force yX6_force, Cond.code yX6_force cX6_force 3 (some .int)]
def wsL_law_r24 : List Cond := [Cond.methodLink RL 49 yX5_out, Cond.instanceMethod yX5_out, Cond.selects RX5 yX5_out yX5_out, Cond.code yX5_out cX5_out 3 (some .int), Cond.methodLink RX5 121 yX0_leave, Cond.instanceMethod yX0_leave, Cond.selects RX0 yX0_leave yX0_leave, Cond.code yX0_leave cX0_leave 3 none, Cond.methodLink RL 52 yX6_out, Cond.instanceMethod yX6_out, Cond.selects RX6 yX6_out yX6_out, Cond.code yX6_out cX6_out 3 (some .int), Cond.methodLink RX6 271 yX6_closesUp, Cond.instanceMethod yX6_closesUp, Cond.selects RX6 yX6_closesUp yX6_closesUp, Cond.code yX6_closesUp cX6_closesUp 3 none, Cond.methodLink RL 53 yX5_into, Cond.instanceMethod yX5_into, Cond.selects RX5 yX5_into yX5_into, Cond.code yX5_into cX5_into 3 (some .int), Cond.fieldLink RX5 125 "WallsOfPrisoners$Marsh" "standing" "I", Cond.methodLink RX5 128 yX0_enter, Cond.methodLink RL 56 yX6_into, Cond.instanceMethod yX6_into]
def wsL_law_r25 : List Cond := [Cond.selects RX6 yX6_into yX6_into, Cond.code yX6_into cX6_into 3 (some .int), Cond.methodLink RX6 275 yX6_stands, Cond.instanceMethod yX6_stands, Cond.selects RX6 yX6_stands yX6_stands, Cond.code yX6_stands cX6_stands 4 none, Cond.methodLink RL 57 yX5_swap, Cond.instanceMethod yX5_swap, Cond.selects RX5 yX5_swap yX5_swap, Cond.code yX5_swap cX5_swap 5 (some .int), Cond.methodLink RX5 132 yX0_exchange, Cond.instanceMethod yX0_exchange, Cond.selects RX0 yX0_exchange yX0_exchange, Cond.code yX0_exchange cX0_exchange 5 none, Cond.methodLink RX5 135 yX0_weakest, Cond.instanceMethod yX0_weakest, Cond.selects RX0 yX0_weakest yX0_weakest, Cond.code yX0_weakest cX0_weakest 5 (some .int), Cond.methodLink RX0 80 yX0_holds, Cond.methodLink RX0 84 yX0_holdFrom, Cond.methodLink RL 60 yX6_swap, Cond.instanceMethod yX6_swap, Cond.selects RX6 yX6_swap yX6_swap, Cond.code yX6_swap cX6_swap 3 (some .int)]
def wsL_law_r26 : List Cond := [Cond.methodLink RX6 279 yX6_change, Cond.instanceMethod yX6_change, Cond.selects RX6 yX6_change yX6_change, Cond.code yX6_change cX6_change 4 none, Cond.methodLink RX6 262 yX6_weakest, Cond.instanceMethod yX6_weakest, Cond.selects RX6 yX6_weakest yX6_weakest, Cond.code yX6_weakest cX6_weakest 4 (some .int), Cond.methodLink RL 61 yX5_hour, Cond.instanceMethod yX5_hour, Cond.selects RX5 yX5_hour yX5_hour, Cond.code yX5_hour cX5_hour 1 (some .int), Cond.fieldLink RX5 138 "WallsOfPrisoners$Marsh" "hour" "I", Cond.methodLink RX5 141 yX0_passHour, Cond.instanceMethod yX0_passHour, Cond.selects RX0 yX0_passHour yX0_passHour, Cond.code yX0_passHour cX0_passHour 3 none, Cond.methodLink RX0 65 Lib.Math.max.name, Cond.static Lib.Math.max.name, Cond.code Lib.Math.max.name Lib.Math.max.code 2 (some .int), Cond.methodLink RX0 62 yX0_spentBy, Cond.methodLink RL 64 yX6_hour, Cond.instanceMethod yX6_hour, Cond.selects RX6 yX6_hour yX6_hour]
def wsL_law_r27 : List Cond := [Cond.code yX6_hour cX6_hour 1 (some .int), Cond.methodLink RX6 282 yX6_passes, Cond.instanceMethod yX6_passes, Cond.selects RX6 yX6_passes yX6_passes, Cond.code yX6_passes cX6_passes 3 none, Cond.methodLink RL 65 yX5_wall, Cond.instanceMethod yX5_wall, Cond.selects RX5 yX5_wall yX5_wall, Cond.code yX5_wall cX5_wall 2 (some .int), Cond.methodLink RX5 144 yX0_gates, Cond.instanceMethod yX0_gates, Cond.selects RX0 yX0_gates yX0_gates, Cond.code yX0_gates cX0_gates 4 (some .int), Cond.methodLink RX5 147 yX0_firstGate, Cond.instanceMethod yX0_firstGate, Cond.selects RX0 yX0_firstGate yX0_firstGate, Cond.code yX0_firstGate cX0_firstGate 3 (some .int), Cond.methodLink RL 68 yX6_wall, Cond.instanceMethod yX6_wall, Cond.selects RX6 yX6_wall yX6_wall, Cond.code yX6_wall cX6_wall 2 (some .int), Cond.methodLink RX6 265 yX6_gates, Cond.instanceMethod yX6_gates, Cond.selects RX6 yX6_gates yX6_gates]
def wsL_law_r28 : List Cond := [Cond.code yX6_gates cX6_gates 3 (some .int), Cond.methodLink RX6 268 yX6_firstGate, Cond.instanceMethod yX6_firstGate, Cond.selects RX6 yX6_firstGate yX6_firstGate, Cond.code yX6_firstGate cX6_firstGate 3 (some .int), Cond.methodLink RL 69 yX5_sneeze, Cond.instanceMethod yX5_sneeze, Cond.selects RX5 yX5_sneeze yX5_sneeze, Cond.code yX5_sneeze cX5_sneeze 9 (some .int), Cond.methodLink RX5 150 yX0_placeBehind, Cond.methodLink RL 72 yX6_sneeze, Cond.instanceMethod yX6_sneeze, Cond.selects RX6 yX6_sneeze yX6_sneeze, Cond.code yX6_sneeze cX6_sneeze 9 (some .int), Cond.constantLong RX6 285 (2), Cond.methodLink RL 73 yX5_run, Cond.instanceMethod yX5_run, Cond.selects RX5 yX5_run yX5_run, Cond.code yX5_run cX5_run 6 (some .int), Cond.methodLink RX5 153 yX0_takeFrom, Cond.instanceMethod yX0_takeFrom, Cond.selects RX0 yX0_takeFrom yX0_takeFrom, Cond.code yX0_takeFrom cX0_takeFrom 2 none, Cond.methodLink RX0 28 arraycopyName]
def wsL_law_r29 : List Cond := [Cond.native arraycopyName, Cond.static arraycopyName, Cond.initialized "java/lang/System", Cond.methodLink RL 76 yX6_run, Cond.instanceMethod yX6_run, Cond.selects RX6 yX6_run yX6_run, Cond.code yX6_run cX6_run 4 (some .int), Cond.constantLong RX6 287 (40), Cond.constantLong RX6 289 (15), Cond.methodLink RX6 291 yX6_laysAside, Cond.instanceMethod yX6_laysAside, Cond.selects RX6 yX6_laysAside yX6_laysAside, Cond.code yX6_laysAside cX6_laysAside 2 none, Cond.methodLink RX6 294 yX6_laysBack, Cond.instanceMethod yX6_laysBack, Cond.selects RX6 yX6_laysBack yX6_laysBack, Cond.code yX6_laysBack cX6_laysBack 2 none, Cond.methodLink RL 77 yX5_opens, Cond.instanceMethod yX5_opens, Cond.selects RX5 yX5_opens yX5_opens, Cond.code yX5_opens cX5_opens 2 (some .int), Cond.methodLink RL 80 yX6_opens, Cond.instanceMethod yX6_opens, Cond.selects RX6 yX6_opens yX6_opens]
def wsL_law_r30 : List Cond := [Cond.code yX6_opens cX6_opens 2 (some .int), Cond.methodLink RL 81 yX5_order, Cond.instanceMethod yX5_order, Cond.selects RX5 yX5_order yX5_order, Cond.code yX5_order cX5_order 2 (some .int), Cond.fieldLink RX5 166 "WallsOfPrisoners$Orders" "bestHard" "I", Cond.methodLink RX5 157 yX1_look, Cond.instanceMethod yX1_look, Cond.selects RX1 yX1_look yX1_look, Cond.code yX1_look cX1_look 5 none, Cond.fieldLink RX1 24 "WallsOfPrisoners$Marsh" "standing" "I", Cond.methodLink RX1 30 Lib.Math.min.name, Cond.fieldLink RX1 36 "WallsOfPrisoners$Orders" "standing" "I", Cond.fieldLink RX1 37 "WallsOfPrisoners$Marsh" "ring" "[I", Cond.methodLink RX1 38 arraycopyName, Cond.methodLink RX1 44 yX0_gripOf, Cond.methodLink RX5 160 yX1_seekBest, Cond.instanceMethod yX1_seekBest, Cond.selects RX1 yX1_seekBest yX1_seekBest, Cond.code yX1_seekBest cX1_seekBest 3 none, Cond.fieldLink RX1 50 "WallsOfPrisoners$Orders" "bestHard" "I", Cond.methodLink RX1 53 yX1_seekFrom, Cond.instanceMethod yX1_seekFrom, Cond.selects RX1 yX1_seekFrom yX1_seekFrom]
def wsL_law_r31 : List Cond := [Cond.code yX1_seekFrom cX1_seekFrom 6 none, Cond.methodLink RX1 47 yX1_between, Cond.instanceMethod yX1_between, Cond.selects RX1 yX1_between yX1_between, Cond.code yX1_between cX1_between 4 (some .int), Cond.methodLink RX5 163 yX1_bestDigits, Cond.instanceMethod yX1_bestDigits, Cond.selects RX1 yX1_bestDigits yX1_bestDigits, Cond.code yX1_bestDigits cX1_bestDigits 3 (some .int), Cond.methodLink RL 84 yX6_order, Cond.instanceMethod yX6_order, Cond.selects RX6 yX6_order yX6_order, Cond.code yX6_order cX6_order 4 (some .int), Cond.fieldLink RX6 297 "WallsOfPrisonersModel" "bestRow" "I", Cond.fieldLink RX6 300 "WallsOfPrisonersModel" "bestHard" "I", Cond.methodLink RX6 306 yX6_orders, Cond.instanceMethod yX6_orders, Cond.selects RX6 yX6_orders yX6_orders, Cond.code yX6_orders cX6_orders 4 none, Cond.methodLink RX6 303 yX6_digitsOf, Cond.instanceMethod yX6_digitsOf, Cond.selects RX6 yX6_digitsOf yX6_digitsOf, Cond.code yX6_digitsOf cX6_digitsOf 3 (some .int), Cond.methodLink RL 85 yX5_let]
def wsL_law_r32 : List Cond := [Cond.instanceMethod yX5_let, Cond.selects RX5 yX5_let yX5_let, Cond.code yX5_let cX5_let 7 (some .int), Cond.fieldLink RX5 169 "WallsOfPrisoners$Marsh" "men" "I", Cond.methodLink RL 88 yX6_let, Cond.instanceMethod yX6_let, Cond.selects RX6 yX6_let yX6_let, Cond.code yX6_let cX6_let 7 (some .int), Cond.methodLink RL 89 yX5_letsIn, Cond.instanceMethod yX5_letsIn, Cond.selects RX5 yX5_letsIn yX5_letsIn, Cond.code yX5_letsIn cX5_letsIn 7 (some .int), Cond.methodLink RL 92 yX6_letsIn, Cond.instanceMethod yX6_letsIn, Cond.selects RX6 yX6_letsIn yX6_letsIn, Cond.code yX6_letsIn cX6_letsIn 8 (some .int), Cond.methodLink RL 93 yX5_swaps, Cond.instanceMethod yX5_swaps, Cond.selects RX5 yX5_swaps yX5_swaps, Cond.code yX5_swaps cX5_swaps 1 (some .int), Cond.methodLink RX5 172 yX1_fewestChanges, Cond.instanceMethod yX1_fewestChanges, Cond.selects RX1 yX1_fewestChanges yX1_fewestChanges, Cond.code yX1_fewestChanges cX1_fewestChanges 2 (some .int)]
def wsL_law_r33 : List Cond := [Cond.methodLink RX1 57 yX1_closesBy, Cond.instanceMethod yX1_closesBy, Cond.selects RX1 yX1_closesBy yX1_closesBy, Cond.code yX1_closesBy cX1_closesBy 5 (some .boolean), Cond.methodLink RX1 61 yX1_weakestNow, Cond.instanceMethod yX1_weakestNow, Cond.selects RX1 yX1_weakestNow yX1_weakestNow, Cond.code yX1_weakestNow cX1_weakestNow 3 (some .int), Cond.methodLink RX1 65 yX1_change, Cond.instanceMethod yX1_change, Cond.selects RX1 yX1_change yX1_change, Cond.code yX1_change cX1_change 4 none, Cond.methodLink RL 96 yX6_swaps, Cond.instanceMethod yX6_swaps, Cond.selects RX6 yX6_swaps yX6_swaps, Cond.code yX6_swaps cX6_swaps 2 (some .int), Cond.methodLink RX6 309 yX6_shutBy, Cond.instanceMethod yX6_shutBy, Cond.selects RX6 yX6_shutBy yX6_shutBy, Cond.code yX6_shutBy cX6_shutBy 4 (some .boolean), Cond.methodLink RL 97 yX5_mean, Cond.instanceMethod yX5_mean, Cond.selects RX5 yX5_mean yX5_mean, Cond.code yX5_mean cX5_mean 4 (some .long)]
def wsL_law_r34 : List Cond := [Cond.constantLong RX5 175 (-4611686018427387904), Cond.methodLink RX5 177 yX5_lowestTerm, Cond.static yX5_lowestTerm, Cond.code yX5_lowestTerm cX5_lowestTerm 7 (some .long), Cond.methodLink RL 101 yX6_mean, Cond.instanceMethod yX6_mean, Cond.selects RX6 yX6_mean yX6_mean, Cond.code yX6_mean cX6_mean 4 (some .long), Cond.constantLong RX6 312 (-4611686018427387904), Cond.methodLink RX6 314 yX6_lowest, Cond.static yX6_lowest, Cond.code yX6_lowest cX6_lowest 11 (some .long), Cond.methodLink RL 102 yX5_tells, Cond.instanceMethod yX5_tells, Cond.selects RX5 yX5_tells yX5_tells, Cond.code yX5_tells cX5_tells 5 (some .int), Cond.fieldLink RX5 184 "WallsOfPrisoners$Sheet" "sort" "I", Cond.fieldLink RX5 187 "WallsOfPrisoners$Sheet" "size" "I", Cond.methodLink RX5 181 yX5_isSheet, Cond.static yX5_isSheet, Cond.code yX5_isSheet cX5_isSheet 1 (some .boolean), Cond.methodLink RX5 188 yX0_firstUnlike, Cond.instanceMethod yX0_firstUnlike, Cond.selects RX0 yX0_firstUnlike yX0_firstUnlike]
def wsL_law_r35 : List Cond := [Cond.code yX0_firstUnlike cX0_firstUnlike 4 (some .int), Cond.fieldLink RX0 87 "WallsOfPrisoners$Sheet" "size" "I", Cond.fieldLink RX0 92 "WallsOfPrisoners$Sheet" "row" "[I", Cond.methodLink RX5 192 yX5_readBack, Cond.instanceMethod yX5_readBack, Cond.selects RX5 yX5_readBack yX5_readBack, Cond.code yX5_readBack cX5_readBack 10 (some .int), Cond.methodLink RX5 230 yX5_traitReadBack, Cond.static yX5_traitReadBack, Cond.code yX5_traitReadBack cX5_traitReadBack 1 (some .int), Cond.methodLink RL 105 yX6_tells, Cond.instanceMethod yX6_tells, Cond.selects RX6 yX6_tells yX6_tells, Cond.code yX6_tells cX6_tells 11 (some .int), Cond.constantLong RX6 321 (7), Cond.methodLink RX6 318 yX6_isSheet, Cond.static yX6_isSheet, Cond.code yX6_isSheet cX6_isSheet 1 (some .boolean), Cond.methodLink RX6 323 yX6_firstOther, Cond.instanceMethod yX6_firstOther, Cond.selects RX6 yX6_firstOther yX6_firstOther, Cond.code yX6_firstOther cX6_firstOther 3 (some .int), Cond.methodLink RL 106 yX5_film, Cond.instanceMethod yX5_film]
def wsL_law_r36 : List Cond := [Cond.selects RX5 yX5_film yX5_film, Cond.code yX5_film cX5_film 5 (some .int), Cond.methodLink RX5 196 yX3_become, Cond.instanceMethod yX3_become, Cond.selects RX3 yX3_become yX3_become, Cond.code yX3_become cX3_become 4 none, Cond.fieldLink RX3 19 "WallsOfPrisoners$Sheet" "size" "I", Cond.methodLink RX5 199 yX3_put, Cond.instanceMethod yX3_put, Cond.selects RX3 yX3_put yX3_put, Cond.code yX3_put cX3_put 3 none, Cond.methodLink RX3 22 yX3_has, Cond.instanceMethod yX3_has, Cond.selects RX3 yX3_has yX3_has, Cond.code yX3_has cX3_has 2 (some .boolean), Cond.methodLink RL 109 yX6_film, Cond.instanceMethod yX6_film, Cond.selects RX6 yX6_film yX6_film, Cond.code yX6_film cX6_film 4 (some .int), Cond.methodLink RX6 326 yX6_sheet, Cond.instanceMethod yX6_sheet, Cond.selects RX6 yX6_sheet yX6_sheet, Cond.code yX6_sheet cX6_sheet 5 (some .int), Cond.constantLong RX6 345 (-1)]
def wsL_law_r37 : List Cond := [Cond.methodLink RL 110 yX5_drawn, Cond.instanceMethod yX5_drawn, Cond.selects RX5 yX5_drawn yX5_drawn, Cond.code yX5_drawn cX5_drawn 3 (some .int), Cond.methodLink RX5 202 yX1_weakestDrawn, Cond.instanceMethod yX1_weakestDrawn, Cond.selects RX1 yX1_weakestDrawn yX1_weakestDrawn, Cond.code yX1_weakestDrawn cX1_weakestDrawn 6 (some .int), Cond.constant RX1 69 (1103515245), Cond.methodLink RL 113 yX6_drawn, Cond.instanceMethod yX6_drawn, Cond.selects RX6 yX6_drawn yX6_drawn, Cond.code yX6_drawn cX6_drawn 3 (some .int), Cond.methodLink RX6 330 yX6_weakestDrawn, Cond.instanceMethod yX6_weakestDrawn, Cond.selects RX6 yX6_weakestDrawn yX6_weakestDrawn, Cond.code yX6_weakestDrawn cX6_weakestDrawn 7 (some .int), Cond.constant RX6 329 (1103515245), Cond.methodLink RL 114 yX5_chance, Cond.instanceMethod yX5_chance, Cond.selects RX5 yX5_chance yX5_chance, Cond.code yX5_chance cX5_chance 7 (some .long), Cond.methodLink RL 118 yX6_chance, Cond.instanceMethod yX6_chance]
def wsL_law_r38 : List Cond := [Cond.selects RX6 yX6_chance yX6_chance, Cond.code yX6_chance cX6_chance 8 (some .long), Cond.methodLink RL 119 yX5_image, Cond.instanceMethod yX5_image, Cond.selects RX5 yX5_image yX5_image, Cond.code yX5_image cX5_image 1 (some .int), Cond.fieldLink RX5 205 "WallsOfPrisoners" "isKept" "Z", Cond.methodLink RL 122 yX6_image, Cond.instanceMethod yX6_image, Cond.selects RX6 yX6_image yX6_image, Cond.code yX6_image cX6_image 2 (some .int), Cond.fieldLink RX6 333 "WallsOfPrisonersModel" "sizeKept" "I", Cond.fieldLink RX6 336 "WallsOfPrisonersModel" "hourKept" "I", Cond.fieldLink RX6 339 "WallsOfPrisonersModel" "coldKept" "I", Cond.fieldLink RX6 342 "WallsOfPrisonersModel" "ruleKept" "I", Cond.methodLink RL 123 yX5_back, Cond.instanceMethod yX5_back, Cond.selects RX5 yX5_back yX5_back, Cond.code yX5_back cX5_back 1 (some .int), Cond.methodLink RL 126 yX6_back, Cond.instanceMethod yX6_back, Cond.selects RX6 yX6_back yX6_back, Cond.code yX6_back cX6_back 2 (some .int), Cond.methodLink RL 127 yX5_count]
def wsL_law_r39 : List Cond := [Cond.instanceMethod yX5_count, Cond.selects RX5 yX5_count yX5_count, Cond.code yX5_count cX5_count 2 (some .int), Cond.methodLink RL 130 yX6_count, Cond.instanceMethod yX6_count, Cond.selects RX6 yX6_count yX6_count, Cond.code yX6_count cX6_count 2 (some .int), Cond.methodLink RL 131 yX5_sheet, Cond.instanceMethod yX5_sheet, Cond.selects RX5 yX5_sheet yX5_sheet, Cond.code yX5_sheet cX5_sheet 4 (some .int), Cond.methodLink RL 134 yX6_sheet, Cond.methodLink RL 135 yX5_cell, Cond.instanceMethod yX5_cell, Cond.selects RX5 yX5_cell yX5_cell, Cond.code yX5_cell cX5_cell 5 (some .int), Cond.methodLink RX5 209 yX3_has, Cond.methodLink RL 138 yX6_cell, Cond.instanceMethod yX6_cell, Cond.selects RX6 yX6_cell yX6_cell, Cond.code yX6_cell cX6_cell 4 (some .int), Cond.methodLink RL 139 yX5_copy, Cond.instanceMethod yX5_copy, Cond.selects RX5 yX5_copy yX5_copy]
def wsL_law_r40 : List Cond := [Cond.code yX5_copy cX5_copy 8 (some .int), Cond.fieldLink RX5 214 "WallsOfPrisoners$Sheet" "row" "[I", Cond.methodLink RX5 218 arraycopyName, Cond.methodLink RX5 210 yX3_hasRun, Cond.instanceMethod yX3_hasRun, Cond.selects RX3 yX3_hasRun yX3_hasRun, Cond.code yX3_hasRun cX3_hasRun 3 (some .boolean), Cond.methodLink RL 143 yX6_copy, Cond.instanceMethod yX6_copy, Cond.selects RX6 yX6_copy yX6_copy, Cond.code yX6_copy cX6_copy 9 (some .int), Cond.methodLink RL 144 yX5_chain, Cond.instanceMethod yX5_chain, Cond.selects RX5 yX5_chain yX5_chain, Cond.code yX5_chain cX5_chain 9 (some .int), Cond.methodLink RL 148 yX6_chain, Cond.instanceMethod yX6_chain, Cond.selects RX6 yX6_chain yX6_chain, Cond.code yX6_chain cX6_chain 8 (some .int), Cond.constantLong RX6 347 (6), Cond.methodLink RX6 349 yX6_man, Cond.methodLink RL 149 yX5_taken, Cond.instanceMethod yX5_taken, Cond.selects RX5 yX5_taken yX5_taken]
def wsL_law_r41 : List Cond := [Cond.code yX5_taken cX5_taken 3 (some .int), Cond.methodLink RX5 224 yX5_isUnder, Cond.methodLink RL 152 yX6_taken, Cond.instanceMethod yX6_taken, Cond.selects RX6 yX6_taken yX6_taken, Cond.code yX6_taken cX6_taken 4 (some .int), Cond.methodLink RX6 352 yX6_over, Cond.static yX6_over, Cond.code yX6_over cX6_over 1 (some .int)]
def wsL_law : List Cond := (wsL_law_r1 ++ (wsL_law_r2 ++ (wsL_law_r3 ++ (wsL_law_r4 ++ (wsL_law_r5 ++ (wsL_law_r6 ++ (wsL_law_r7 ++ (wsL_law_r8 ++ (wsL_law_r9 ++ (wsL_law_r10 ++ (wsL_law_r11 ++ (wsL_law_r12 ++ (wsL_law_r13 ++ (wsL_law_r14 ++ (wsL_law_r15 ++ (wsL_law_r16 ++ (wsL_law_r17 ++ (wsL_law_r18 ++ (wsL_law_r19 ++ (wsL_law_r20 ++ (wsL_law_r21 ++ (wsL_law_r22 ++ (wsL_law_r23 ++ (wsL_law_r24 ++ (wsL_law_r25 ++ (wsL_law_r26 ++ (wsL_law_r27 ++ (wsL_law_r28 ++ (wsL_law_r29 ++ (wsL_law_r30 ++ (wsL_law_r31 ++ (wsL_law_r32 ++ (wsL_law_r33 ++ (wsL_law_r34 ++ (wsL_law_r35 ++ (wsL_law_r36 ++ (wsL_law_r37 ++ (wsL_law_r38 ++ (wsL_law_r39 ++ (wsL_law_r40 ++ wsL_law_r41)))))))))))))))))))))))))))))))))))))))) ++ wsX50 ++ wsX60 ++ wsX40 ++ wsX20 ++ wsX00 ++ wsX10 ++ wsX30 ++ ([] : List Cond)
theorem inlX0 : ∀ w ∈ wsX00, w ∈ wsL_law := fun _ h => List.mem_append_left _ (List.mem_append_left _ (List.mem_append_left _ (List.mem_append_right _ h)))
theorem inlX1 : ∀ w ∈ wsX10, w ∈ wsL_law := fun _ h => List.mem_append_left _ (List.mem_append_left _ (List.mem_append_right _ h))
theorem inlX2 : ∀ w ∈ wsX20, w ∈ wsL_law := fun _ h => List.mem_append_left _ (List.mem_append_left _ (List.mem_append_left _ (List.mem_append_left _ (List.mem_append_right _ h))))
theorem inlX3 : ∀ w ∈ wsX30, w ∈ wsL_law := fun _ h => List.mem_append_left _ (List.mem_append_right _ h)
theorem inlX4 : ∀ w ∈ wsX40, w ∈ wsL_law := fun _ h => List.mem_append_left _ (List.mem_append_left _ (List.mem_append_left _ (List.mem_append_left _ (List.mem_append_left _ (List.mem_append_right _ h)))))
theorem inlX5 : ∀ w ∈ wsX50, w ∈ wsL_law := fun _ h => List.mem_append_left _ (List.mem_append_left _ (List.mem_append_left _ (List.mem_append_left _ (List.mem_append_left _ (List.mem_append_left _ (List.mem_append_left _ (List.mem_append_right _ h)))))))
theorem inlX6 : ∀ w ∈ wsX60, w ∈ wsL_law := fun _ h => List.mem_append_left _ (List.mem_append_left _ (List.mem_append_left _ (List.mem_append_left _ (List.mem_append_left _ (List.mem_append_left _ (List.mem_append_right _ h))))))
abbrev vwCl : List vw_C := [(RX0, TX0, 10), (RX1, TX1, 6), (RX2, TX2, 7), (RX3, TX3, 3), (RX4, TX4, 5), (RX5, TX5, 8), (RX6, TX6, 44)]
end
section
theorem z_pl_in {big : List Cond} (ws : List Cond) (ps : List Nat) (hp : ws = ps.filterMap (fun i => big[i]?)) : ∀ w ∈ ws, w ∈ big := by
  intro w hw
  rw [hp] at hw
  obtain ⟨i, -, hi⟩ := List.mem_filterMap.mp hw
  exact List.mem_of_getElem? hi
theorem z_all_app {p : Cond → Bool} {a b : List Cond} (ha : a.all p = true) (hb : b.all p = true) : (a ++ b).all p = true := by rw [List.all_append, ha, hb]; rfl
theorem z_in_app {a b big : List Cond} (ha : ∀ w ∈ a, w ∈ big) (hb : ∀ w ∈ b, w ∈ big) : ∀ w ∈ a ++ b, w ∈ big := fun w h => (List.mem_append.mp h).elim (ha w) (hb w)
set_option maxRecDepth 20000 in
theorem zr1 : ∀ w ∈ wsL_law_r1, w ∈ lw_tbl := z_pl_in _ [78, 79, 65, 750, 751, 75, 80, 81, 82, 83, 84, 85, 86, 87, 66, 387, 111, 112, 67, 388, 140, 141, 68, 389] (by decide +kernel)
theorem zg1 : wsL_law_r1.all goodWord = true := by decide +kernel
set_option maxRecDepth 20000 in
theorem zr2 : ∀ w ∈ wsL_law_r2, w ∈ lw_tbl := z_pl_in _ [390, 391, 184, 185, 69, 392, 210, 393, 212, 70, 89, 90, 91, 110, 92, 93, 94, 113, 114, 115, 116, 118, 117, 142] (by decide +kernel)
theorem zg2 : wsL_law_r2.all goodWord = true := by decide +kernel
set_option maxRecDepth 20000 in
theorem zr3 : ∀ w ∈ wsL_law_r3, w ∈ lw_tbl := z_pl_in _ [143, 144, 145, 147, 148, 149, 150, 146, 187, 188, 189, 190, 191, 192, 193, 214, 215, 216, 217, 220, 233, 234, 235, 71] (by decide +kernel)
theorem zg3 : wsL_law_r3.all goodWord = true := by decide +kernel
set_option maxRecDepth 20000 in
theorem zr4 : ∀ w ∈ wsL_law_r4, w ∈ lw_tbl := z_pl_in _ [236, 1231, 237, 238, 239, 240, 241, 1232, 243, 244, 245, 246, 247, 248, 249, 250, 251, 252, 72, 253, 254, 255, 256, 257] (by decide +kernel)
theorem zg4 : wsL_law_r4.all goodWord = true := by decide +kernel
set_option maxRecDepth 20000 in
theorem zr5 : ∀ w ∈ wsL_law_r5, w ∈ lw_tbl := z_pl_in _ [259, 260, 73, 261, 262, 263, 74, 264, 265, 266, 267, 268, 269, 270, 271, 272, 273, 274, 275, 277, 279, 281, 282, 283] (by decide +kernel)
theorem zg5 : wsL_law_r5.all goodWord = true := by decide +kernel
set_option maxRecDepth 20000 in
theorem zr6 : ∀ w ∈ wsL_law_r6, w ∈ lw_tbl := z_pl_in _ [284, 119, 285, 286, 287, 288, 121, 123, 96, 122, 289, 290, 291, 292, 95, 98, 293, 295, 0, 296, 297, 299, 1, 300] (by decide +kernel)
theorem zg6 : wsL_law_r6.all goodWord = true := by decide +kernel
set_option maxRecDepth 20000 in
theorem zr7 : ∀ w ∈ wsL_law_r7, w ∈ lw_tbl := z_pl_in _ [301, 302, 303, 304, 306, 2, 307, 124, 308, 309, 310, 311, 313, 3, 314, 315, 316, 317, 330, 332, 4, 333, 334, 335] (by decide +kernel)
theorem zg7 : wsL_law_r7.all goodWord = true := by decide +kernel
set_option maxRecDepth 20000 in
theorem zr8 : ∀ w ∈ wsL_law_r8, w ∈ lw_tbl := z_pl_in _ [336, 337, 338, 339, 341, 5, 342, 343, 345, 6, 346, 347, 349, 7, 371, 372, 373, 374, 350, 351, 353, 8, 382, 358] (by decide +kernel)
theorem zg8 : wsL_law_r8.all goodWord = true := by decide +kernel
set_option maxRecDepth 20000 in
theorem zr9 : ∀ w ∈ wsL_law_r9, w ∈ lw_tbl := z_pl_in _ [359, 361, 10, 354, 355, 357, 9, 378, 367, 369, 12, 370, 375, 377, 13, 379, 381, 14, 362, 363, 365, 11, 366, 383] (by decide +kernel)
theorem zg9 : wsL_law_r9.all goodWord = true := by decide +kernel
set_option maxRecDepth 20000 in
theorem zr10 : ∀ w ∈ wsL_law_r10, w ∈ lw_tbl := z_pl_in _ [384, 385, 386, 752, 753, 754, 755, 760, 761, 764, 768, 770, 787, 788, 789, 792, 793, 794, 892, 799, 800, 801, 802, 762] (by decide +kernel)
theorem zg10 : wsL_law_r10.all goodWord = true := by decide +kernel
set_option maxRecDepth 20000 in
theorem zr11 : ∀ w ∈ wsL_law_r11, w ∈ lw_tbl := z_pl_in _ [756, 758, 22, 759, 413, 414, 415, 416, 417, 418, 419, 420, 421, 422, 423, 152, 424, 425, 426, 427, 157, 159, 428, 429] (by decide +kernel)
theorem zg11 : wsL_law_r11.all goodWord = true := by decide +kernel
set_option maxRecDepth 20000 in
theorem zr12 : ∀ w ∈ wsL_law_r12, w ∈ lw_tbl := z_pl_in _ [430, 431, 432, 160, 893, 894, 895, 896, 897, 898, 899, 900, 901, 903, 23, 904, 771, 905, 907, 24, 908, 769, 909, 911] (by decide +kernel)
theorem zg12 : wsL_law_r12.all goodWord = true := by decide +kernel
set_option maxRecDepth 20000 in
theorem zr13 : ∀ w ∈ wsL_law_r13, w ∈ lw_tbl := z_pl_in _ [25, 912, 913, 914, 915, 916, 917, 918, 919, 920, 766, 767, 921, 923, 26, 924, 925, 927, 27, 928, 929, 931, 28, 932] (by decide +kernel)
theorem zg13 : wsL_law_r13.all goodWord = true := by decide +kernel
set_option maxRecDepth 20000 in
theorem zr14 : ∀ w ∈ wsL_law_r14, w ∈ lw_tbl := z_pl_in _ [772, 773, 774, 775, 776, 777, 763, 933, 935, 29, 936, 778, 779, 780, 784, 785, 781, 937, 939, 30, 940, 782, 945, 946] (by decide +kernel)
theorem zg14 : wsL_law_r14.all goodWord = true := by decide +kernel
set_option maxRecDepth 20000 in
theorem zr15 : ∀ w ∈ wsL_law_r15, w ∈ lw_tbl := z_pl_in _ [947, 948, 783, 949, 941, 943, 31, 944, 950, 952, 32, 953, 954, 956, 33, 957, 958, 960, 34, 961, 962, 964, 35, 965] (by decide +kernel)
theorem zg15 : wsL_law_r15.all goodWord = true := by decide +kernel
set_option maxRecDepth 20000 in
theorem zr16 : ∀ w ∈ wsL_law_r16, w ∈ lw_tbl := z_pl_in _ [786, 966, 968, 36, 969, 970, 972, 37, 985, 1002, 986, 988, 41, 994, 996, 43, 997, 993, 978, 980, 39, 981, 990, 992] (by decide +kernel)
theorem zg16 : wsL_law_r16.all goodWord = true := by decide +kernel
set_option maxRecDepth 20000 in
theorem zr17 : ∀ w ∈ wsL_law_r17, w ∈ lw_tbl := z_pl_in _ [42, 998, 1000, 44, 1001, 973, 974, 976, 38, 977, 1003, 982, 984, 40, 989, 1004, 1005, 1006, 1007, 1009, 45, 1010, 1011, 1013] (by decide +kernel)
theorem zg17 : wsL_law_r17.all goodWord = true := by decide +kernel
set_option maxRecDepth 20000 in
theorem zr18 : ∀ w ∈ wsL_law_r18, w ∈ lw_tbl := z_pl_in _ [46, 1014, 1015, 1017, 47, 1018, 433, 434, 435, 436, 437, 438, 439, 440, 155, 441, 442, 443, 444, 1019, 1020, 1021, 1022, 1023] (by decide +kernel)
theorem zg18 : wsL_law_r18.all goodWord = true := by decide +kernel
set_option maxRecDepth 20000 in
theorem zr19 : ∀ w ∈ wsL_law_r19, w ∈ lw_tbl := z_pl_in _ [1024, 1025, 445, 446, 447, 448, 449, 450, 451, 452, 453, 454, 455, 456, 457, 458, 459, 460, 161, 461, 462, 76, 463, 464] (by decide +kernel)
theorem zg19 : wsL_law_r19.all goodWord = true := by decide +kernel
set_option maxRecDepth 20000 in
theorem zr20 : ∀ w ∈ wsL_law_r20, w ∈ lw_tbl := z_pl_in _ [465, 466, 467, 468, 469, 470, 472, 473, 474, 475, 476, 477, 478, 479, 480, 481, 482, 483, 484, 485, 504, 486, 487, 488] (by decide +kernel)
theorem zg20 : wsL_law_r20.all goodWord = true := by decide +kernel
set_option maxRecDepth 20000 in
theorem zr21 : ∀ w ∈ wsL_law_r21, w ∈ lw_tbl := z_pl_in _ [489, 490, 491, 492, 493, 494, 495, 497, 15, 498, 500, 501, 502, 1026, 505, 506, 507, 508, 509, 1040, 1041, 1042, 1043, 1044] (by decide +kernel)
theorem zg21 : wsL_law_r21.all goodWord = true := by decide +kernel
set_option maxRecDepth 20000 in
theorem zr22 : ∀ w ∈ wsL_law_r22, w ∈ lw_tbl := z_pl_in _ [1046, 48, 1047, 510, 511, 512, 513, 514, 515, 516, 517, 1048, 1049, 1050, 1051, 1052, 1054, 49, 1055, 518, 519, 520, 521, 120] (by decide +kernel)
theorem zg22 : wsL_law_r22.all goodWord = true := by decide +kernel
set_option maxRecDepth 20000 in
theorem zr23 : ∀ w ∈ wsL_law_r23, w ∈ lw_tbl := z_pl_in _ [1027, 1028, 1029, 1030, 1031, 765, 522, 523, 524, 525, 97, 1032, 1033, 1034, 1035, 526, 527, 528, 529, 162, 1036, 1037, 1038, 1039] (by decide +kernel)
theorem zg23 : wsL_law_r23.all goodWord = true := by decide +kernel
set_option maxRecDepth 20000 in
theorem zr24 : ∀ w ∈ wsL_law_r24, w ∈ lw_tbl := z_pl_in _ [530, 531, 532, 533, 534, 535, 536, 537, 1072, 1073, 1074, 1075, 1076, 1078, 53, 1079, 538, 539, 540, 541, 156, 542, 1080, 1081] (by decide +kernel)
theorem zg24 : wsL_law_r24.all goodWord = true := by decide +kernel
set_option maxRecDepth 20000 in
theorem zr25 : ∀ w ∈ wsL_law_r25, w ∈ lw_tbl := z_pl_in _ [1082, 1083, 1084, 1086, 54, 1087, 543, 544, 545, 546, 547, 548, 549, 550, 551, 552, 553, 554, 555, 556, 1088, 1089, 1090, 1091] (by decide +kernel)
theorem zg25 : wsL_law_r25.all goodWord = true := by decide +kernel
set_option maxRecDepth 20000 in
theorem zr26 : ∀ w ∈ wsL_law_r26, w ∈ lw_tbl := z_pl_in _ [1092, 1094, 55, 1095, 1060, 1062, 50, 1063, 557, 558, 559, 560, 158, 561, 562, 563, 564, 566, 567, 568, 565, 1096, 1097, 1098] (by decide +kernel)
theorem zg26 : wsL_law_r26.all goodWord = true := by decide +kernel
set_option maxRecDepth 20000 in
theorem zr27 : ∀ w ∈ wsL_law_r27, w ∈ lw_tbl := z_pl_in _ [1099, 1100, 1102, 56, 1103, 569, 570, 571, 572, 573, 574, 575, 576, 577, 578, 579, 580, 1056, 1057, 1058, 1059, 1064, 1066, 51] (by decide +kernel)
theorem zg27 : wsL_law_r27.all goodWord = true := by decide +kernel
set_option maxRecDepth 20000 in
theorem zr28 : ∀ w ∈ wsL_law_r28, w ∈ lw_tbl := z_pl_in _ [1067, 1068, 1070, 52, 1071, 581, 582, 583, 584, 585, 1104, 1105, 1106, 1107, 1108, 586, 587, 588, 589, 590, 591, 592, 593, 594] (by decide +kernel)
theorem zg28 : wsL_law_r28.all goodWord = true := by decide +kernel
set_option maxRecDepth 20000 in
theorem zr29 : ∀ w ∈ wsL_law_r29, w ∈ lw_tbl := z_pl_in _ [596, 595, 77, 1109, 1110, 1111, 1112, 1113, 1114, 1115, 1117, 57, 1118, 1119, 1121, 58, 1122, 597, 598, 599, 600, 1123, 1124, 1125] (by decide +kernel)
theorem zg29 : wsL_law_r29.all goodWord = true := by decide +kernel
set_option maxRecDepth 20000 in
theorem zr30 : ∀ w ∈ wsL_law_r30, w ∈ lw_tbl := z_pl_in _ [1126, 601, 602, 603, 604, 196, 605, 606, 607, 608, 154, 609, 194, 151, 610, 611, 612, 613, 614, 615, 195, 616, 618, 16] (by decide +kernel)
theorem zg30 : wsL_law_r30.all goodWord = true := by decide +kernel
set_option maxRecDepth 20000 in
theorem zr31 : ∀ w ∈ wsL_law_r31, w ∈ lw_tbl := z_pl_in _ [619, 620, 622, 17, 623, 624, 625, 626, 627, 1127, 1128, 1129, 1130, 790, 791, 1131, 1133, 59, 1134, 1135, 1137, 60, 1138, 628] (by decide +kernel)
theorem zg31 : wsL_law_r31.all goodWord = true := by decide +kernel
set_option maxRecDepth 20000 in
theorem zr32 : ∀ w ∈ wsL_law_r32, w ∈ lw_tbl := z_pl_in _ [629, 630, 631, 153, 1139, 1140, 1141, 1142, 632, 633, 634, 635, 1143, 1144, 1145, 1146, 636, 637, 638, 639, 640, 641, 642, 643] (by decide +kernel)
theorem zg32 : wsL_law_r32.all goodWord = true := by decide +kernel
set_option maxRecDepth 20000 in
theorem zr33 : ∀ w ∈ wsL_law_r33, w ∈ lw_tbl := z_pl_in _ [644, 646, 18, 647, 648, 650, 19, 651, 652, 654, 20, 655, 1147, 1148, 1149, 1150, 1151, 1153, 61, 1154, 656, 657, 658, 659] (by decide +kernel)
theorem zg33 : wsL_law_r33.all goodWord = true := by decide +kernel
set_option maxRecDepth 20000 in
theorem zr34 : ∀ w ∈ wsL_law_r34, w ∈ lw_tbl := z_pl_in _ [660, 661, 662, 663, 1155, 1156, 1157, 1158, 1159, 1160, 1161, 1162, 664, 665, 666, 667, 221, 224, 668, 669, 670, 671, 672, 673] (by decide +kernel)
theorem zg34 : wsL_law_r34.all goodWord = true := by decide +kernel
set_option maxRecDepth 20000 in
theorem zr35 : ∀ w ∈ wsL_law_r35, w ∈ lw_tbl := z_pl_in _ [674, 223, 218, 675, 677, 21, 678, 679, 680, 681, 1163, 1164, 1165, 1166, 1170, 1167, 1168, 1169, 1171, 1173, 62, 1174, 682, 683] (by decide +kernel)
theorem zg35 : wsL_law_r35.all goodWord = true := by decide +kernel
set_option maxRecDepth 20000 in
theorem zr36 : ∀ w ∈ wsL_law_r36, w ∈ lw_tbl := z_pl_in _ [684, 685, 686, 687, 688, 689, 222, 690, 691, 692, 693, 694, 695, 696, 697, 1175, 1176, 1177, 1178, 1179, 1180, 1181, 1182, 1183] (by decide +kernel)
theorem zg36 : wsL_law_r36.all goodWord = true := by decide +kernel
set_option maxRecDepth 20000 in
theorem zr37 : ∀ w ∈ wsL_law_r37, w ∈ lw_tbl := z_pl_in _ [698, 699, 700, 701, 702, 703, 704, 705, 706, 1184, 1185, 1186, 1187, 1188, 1190, 63, 1191, 1192, 707, 708, 709, 710, 1193, 1194] (by decide +kernel)
theorem zg37 : wsL_law_r37.all goodWord = true := by decide +kernel
set_option maxRecDepth 20000 in
theorem zr38 : ∀ w ∈ wsL_law_r38, w ∈ lw_tbl := z_pl_in _ [1195, 1196, 711, 712, 713, 714, 394, 1197, 1198, 1199, 1200, 795, 796, 797, 798, 715, 716, 717, 718, 1201, 1202, 1203, 1204, 719] (by decide +kernel)
theorem zg38 : wsL_law_r38.all goodWord = true := by decide +kernel
set_option maxRecDepth 20000 in
theorem zr39 : ∀ w ∈ wsL_law_r39, w ∈ lw_tbl := z_pl_in _ [720, 721, 722, 1205, 1206, 1207, 1208, 723, 724, 725, 726, 1209, 727, 728, 729, 730, 731, 1210, 1211, 1212, 1213, 732, 733, 734] (by decide +kernel)
theorem zg39 : wsL_law_r39.all goodWord = true := by decide +kernel
set_option maxRecDepth 20000 in
theorem zr40 : ∀ w ∈ wsL_law_r40, w ∈ lw_tbl := z_pl_in _ [735, 219, 740, 736, 737, 738, 739, 1214, 1215, 1216, 1217, 741, 742, 743, 744, 1218, 1219, 1220, 1221, 1222, 1223, 745, 746, 747] (by decide +kernel)
theorem zg40 : wsL_law_r40.all goodWord = true := by decide +kernel
set_option maxRecDepth 20000 in
theorem zr41 : ∀ w ∈ wsL_law_r41, w ∈ lw_tbl := z_pl_in _ [748, 749, 1224, 1225, 1226, 1227, 1228, 1229, 1230] (by decide +kernel)
theorem zg41 : wsL_law_r41.all goodWord = true := by decide +kernel
set_option maxRecDepth 20000 in
theorem zx0 : ∀ w ∈ wsX00, w ∈ lw_tbl := z_pl_in _ [163, 165, 167, 169, 171, 173, 175, 177, 179, 181] (by decide +kernel)
theorem zxg0 : wsX00.all goodWord = true := by decide +kernel
set_option maxRecDepth 20000 in
theorem zx1 : ∀ w ∈ wsX10, w ∈ lw_tbl := z_pl_in _ [197, 199, 201, 203, 205, 207] (by decide +kernel)
theorem zxg1 : wsX10.all goodWord = true := by decide +kernel
set_option maxRecDepth 20000 in
theorem zx2 : ∀ w ∈ wsX20, w ∈ lw_tbl := z_pl_in _ [125, 127, 129, 131, 133, 135, 137] (by decide +kernel)
theorem zxg2 : wsX20.all goodWord = true := by decide +kernel
set_option maxRecDepth 20000 in
theorem zx3 : ∀ w ∈ wsX30, w ∈ lw_tbl := z_pl_in _ [225, 227, 229] (by decide +kernel)
theorem zxg3 : wsX30.all goodWord = true := by decide +kernel
set_option maxRecDepth 20000 in
theorem zx4 : ∀ w ∈ wsX40, w ∈ lw_tbl := z_pl_in _ [99, 101, 103, 105, 107] (by decide +kernel)
theorem zxg4 : wsX40.all goodWord = true := by decide +kernel
set_option maxRecDepth 20000 in
theorem zx5 : ∀ w ∈ wsX50, w ∈ lw_tbl := z_pl_in _ [395, 397, 399, 401, 403, 405, 407, 409] (by decide +kernel)
theorem zxg5 : wsX50.all goodWord = true := by decide +kernel
set_option maxRecDepth 20000 in
theorem zx6 : ∀ w ∈ wsX60, w ∈ lw_tbl := z_pl_in _ [803, 805, 807, 809, 811, 813, 815, 817, 819, 821, 823, 825, 827, 829, 831, 833, 835, 837, 839, 841, 843, 845, 847, 849, 851, 853, 855, 857, 859, 861, 863, 865, 867, 869, 871, 873, 875, 877, 879, 881, 883, 885, 887, 889] (by decide +kernel)
theorem zxg6 : wsX60.all goodWord = true := by decide +kernel
theorem wsL_law_in : ∀ w ∈ wsL_law, w ∈ lw_tbl := z_in_app (z_in_app (z_in_app (z_in_app (z_in_app (z_in_app (z_in_app (z_in_app (z_in_app zr1 (z_in_app zr2 (z_in_app zr3 (z_in_app zr4 (z_in_app zr5 (z_in_app zr6 (z_in_app zr7 (z_in_app zr8 (z_in_app zr9 (z_in_app zr10 (z_in_app zr11 (z_in_app zr12 (z_in_app zr13 (z_in_app zr14 (z_in_app zr15 (z_in_app zr16 (z_in_app zr17 (z_in_app zr18 (z_in_app zr19 (z_in_app zr20 (z_in_app zr21 (z_in_app zr22 (z_in_app zr23 (z_in_app zr24 (z_in_app zr25 (z_in_app zr26 (z_in_app zr27 (z_in_app zr28 (z_in_app zr29 (z_in_app zr30 (z_in_app zr31 (z_in_app zr32 (z_in_app zr33 (z_in_app zr34 (z_in_app zr35 (z_in_app zr36 (z_in_app zr37 (z_in_app zr38 (z_in_app zr39 (z_in_app zr40 zr41)))))))))))))))))))))))))))))))))))))))) zx5) zx6) zx4) zx2) zx0) zx1) zx3) (fun _ h => absurd h List.not_mem_nil)
theorem wsL_law_good : wsL_law.all goodWord = true := z_all_app (z_all_app (z_all_app (z_all_app (z_all_app (z_all_app (z_all_app (z_all_app (z_all_app zg1 (z_all_app zg2 (z_all_app zg3 (z_all_app zg4 (z_all_app zg5 (z_all_app zg6 (z_all_app zg7 (z_all_app zg8 (z_all_app zg9 (z_all_app zg10 (z_all_app zg11 (z_all_app zg12 (z_all_app zg13 (z_all_app zg14 (z_all_app zg15 (z_all_app zg16 (z_all_app zg17 (z_all_app zg18 (z_all_app zg19 (z_all_app zg20 (z_all_app zg21 (z_all_app zg22 (z_all_app zg23 (z_all_app zg24 (z_all_app zg25 (z_all_app zg26 (z_all_app zg27 (z_all_app zg28 (z_all_app zg29 (z_all_app zg30 (z_all_app zg31 (z_all_app zg32 (z_all_app zg33 (z_all_app zg34 (z_all_app zg35 (z_all_app zg36 (z_all_app zg37 (z_all_app zg38 (z_all_app zg39 (z_all_app zg40 zg41)))))))))))))))))))))))))))))))))))))))) zxg5) zxg6) zxg4) zxg2) zxg0) zxg1) zxg3) rfl
theorem zs1 : ∀ w ∈ wsL_law_r1, w ∈ wsL_law := fun _ h => List.mem_append_left _ (List.mem_append_left _ (List.mem_append_left _ (List.mem_append_left _ (List.mem_append_left _ (List.mem_append_left _ (List.mem_append_left _ (List.mem_append_left _ (List.mem_append_left _ h))))))))
theorem zs2 : ∀ w ∈ wsL_law_r2, w ∈ wsL_law := fun _ h => List.mem_append_left _ (List.mem_append_left _ (List.mem_append_left _ (List.mem_append_left _ (List.mem_append_left _ (List.mem_append_left _ (List.mem_append_left _ (List.mem_append_left _ (List.mem_append_right _ (List.mem_append_left _ h)))))))))
theorem zs3 : ∀ w ∈ wsL_law_r3, w ∈ wsL_law := fun _ h => List.mem_append_left _ (List.mem_append_left _ (List.mem_append_left _ (List.mem_append_left _ (List.mem_append_left _ (List.mem_append_left _ (List.mem_append_left _ (List.mem_append_left _ (List.mem_append_right _ (List.mem_append_right _ (List.mem_append_left _ h))))))))))
theorem zs4 : ∀ w ∈ wsL_law_r4, w ∈ wsL_law := fun _ h => List.mem_append_left _ (List.mem_append_left _ (List.mem_append_left _ (List.mem_append_left _ (List.mem_append_left _ (List.mem_append_left _ (List.mem_append_left _ (List.mem_append_left _ (List.mem_append_right _ (List.mem_append_right _ (List.mem_append_right _ (List.mem_append_left _ h)))))))))))
theorem zs5 : ∀ w ∈ wsL_law_r5, w ∈ wsL_law := fun _ h => List.mem_append_left _ (List.mem_append_left _ (List.mem_append_left _ (List.mem_append_left _ (List.mem_append_left _ (List.mem_append_left _ (List.mem_append_left _ (List.mem_append_left _ (List.mem_append_right _ (List.mem_append_right _ (List.mem_append_right _ (List.mem_append_right _ (List.mem_append_left _ h))))))))))))
theorem zs6 : ∀ w ∈ wsL_law_r6, w ∈ wsL_law := fun _ h => List.mem_append_left _ (List.mem_append_left _ (List.mem_append_left _ (List.mem_append_left _ (List.mem_append_left _ (List.mem_append_left _ (List.mem_append_left _ (List.mem_append_left _ (List.mem_append_right _ (List.mem_append_right _ (List.mem_append_right _ (List.mem_append_right _ (List.mem_append_right _ (List.mem_append_left _ h)))))))))))))
theorem zs7 : ∀ w ∈ wsL_law_r7, w ∈ wsL_law := fun _ h => List.mem_append_left _ (List.mem_append_left _ (List.mem_append_left _ (List.mem_append_left _ (List.mem_append_left _ (List.mem_append_left _ (List.mem_append_left _ (List.mem_append_left _ (List.mem_append_right _ (List.mem_append_right _ (List.mem_append_right _ (List.mem_append_right _ (List.mem_append_right _ (List.mem_append_right _ (List.mem_append_left _ h))))))))))))))
theorem zs8 : ∀ w ∈ wsL_law_r8, w ∈ wsL_law := fun _ h => List.mem_append_left _ (List.mem_append_left _ (List.mem_append_left _ (List.mem_append_left _ (List.mem_append_left _ (List.mem_append_left _ (List.mem_append_left _ (List.mem_append_left _ (List.mem_append_right _ (List.mem_append_right _ (List.mem_append_right _ (List.mem_append_right _ (List.mem_append_right _ (List.mem_append_right _ (List.mem_append_right _ (List.mem_append_left _ h)))))))))))))))
theorem zs9 : ∀ w ∈ wsL_law_r9, w ∈ wsL_law := fun _ h => List.mem_append_left _ (List.mem_append_left _ (List.mem_append_left _ (List.mem_append_left _ (List.mem_append_left _ (List.mem_append_left _ (List.mem_append_left _ (List.mem_append_left _ (List.mem_append_right _ (List.mem_append_right _ (List.mem_append_right _ (List.mem_append_right _ (List.mem_append_right _ (List.mem_append_right _ (List.mem_append_right _ (List.mem_append_right _ (List.mem_append_left _ h))))))))))))))))
theorem zs10 : ∀ w ∈ wsL_law_r10, w ∈ wsL_law := fun _ h => List.mem_append_left _ (List.mem_append_left _ (List.mem_append_left _ (List.mem_append_left _ (List.mem_append_left _ (List.mem_append_left _ (List.mem_append_left _ (List.mem_append_left _ (List.mem_append_right _ (List.mem_append_right _ (List.mem_append_right _ (List.mem_append_right _ (List.mem_append_right _ (List.mem_append_right _ (List.mem_append_right _ (List.mem_append_right _ (List.mem_append_right _ (List.mem_append_left _ h)))))))))))))))))
theorem zs11 : ∀ w ∈ wsL_law_r11, w ∈ wsL_law := fun _ h => List.mem_append_left _ (List.mem_append_left _ (List.mem_append_left _ (List.mem_append_left _ (List.mem_append_left _ (List.mem_append_left _ (List.mem_append_left _ (List.mem_append_left _ (List.mem_append_right _ (List.mem_append_right _ (List.mem_append_right _ (List.mem_append_right _ (List.mem_append_right _ (List.mem_append_right _ (List.mem_append_right _ (List.mem_append_right _ (List.mem_append_right _ (List.mem_append_right _ (List.mem_append_left _ h))))))))))))))))))
theorem zs12 : ∀ w ∈ wsL_law_r12, w ∈ wsL_law := fun _ h => List.mem_append_left _ (List.mem_append_left _ (List.mem_append_left _ (List.mem_append_left _ (List.mem_append_left _ (List.mem_append_left _ (List.mem_append_left _ (List.mem_append_left _ (List.mem_append_right _ (List.mem_append_right _ (List.mem_append_right _ (List.mem_append_right _ (List.mem_append_right _ (List.mem_append_right _ (List.mem_append_right _ (List.mem_append_right _ (List.mem_append_right _ (List.mem_append_right _ (List.mem_append_right _ (List.mem_append_left _ h)))))))))))))))))))
theorem zs13 : ∀ w ∈ wsL_law_r13, w ∈ wsL_law := fun _ h => List.mem_append_left _ (List.mem_append_left _ (List.mem_append_left _ (List.mem_append_left _ (List.mem_append_left _ (List.mem_append_left _ (List.mem_append_left _ (List.mem_append_left _ (List.mem_append_right _ (List.mem_append_right _ (List.mem_append_right _ (List.mem_append_right _ (List.mem_append_right _ (List.mem_append_right _ (List.mem_append_right _ (List.mem_append_right _ (List.mem_append_right _ (List.mem_append_right _ (List.mem_append_right _ (List.mem_append_right _ (List.mem_append_left _ h))))))))))))))))))))
theorem zs14 : ∀ w ∈ wsL_law_r14, w ∈ wsL_law := fun _ h => List.mem_append_left _ (List.mem_append_left _ (List.mem_append_left _ (List.mem_append_left _ (List.mem_append_left _ (List.mem_append_left _ (List.mem_append_left _ (List.mem_append_left _ (List.mem_append_right _ (List.mem_append_right _ (List.mem_append_right _ (List.mem_append_right _ (List.mem_append_right _ (List.mem_append_right _ (List.mem_append_right _ (List.mem_append_right _ (List.mem_append_right _ (List.mem_append_right _ (List.mem_append_right _ (List.mem_append_right _ (List.mem_append_right _ (List.mem_append_left _ h)))))))))))))))))))))
theorem zs15 : ∀ w ∈ wsL_law_r15, w ∈ wsL_law := fun _ h => List.mem_append_left _ (List.mem_append_left _ (List.mem_append_left _ (List.mem_append_left _ (List.mem_append_left _ (List.mem_append_left _ (List.mem_append_left _ (List.mem_append_left _ (List.mem_append_right _ (List.mem_append_right _ (List.mem_append_right _ (List.mem_append_right _ (List.mem_append_right _ (List.mem_append_right _ (List.mem_append_right _ (List.mem_append_right _ (List.mem_append_right _ (List.mem_append_right _ (List.mem_append_right _ (List.mem_append_right _ (List.mem_append_right _ (List.mem_append_right _ (List.mem_append_left _ h))))))))))))))))))))))
theorem zs16 : ∀ w ∈ wsL_law_r16, w ∈ wsL_law := fun _ h => List.mem_append_left _ (List.mem_append_left _ (List.mem_append_left _ (List.mem_append_left _ (List.mem_append_left _ (List.mem_append_left _ (List.mem_append_left _ (List.mem_append_left _ (List.mem_append_right _ (List.mem_append_right _ (List.mem_append_right _ (List.mem_append_right _ (List.mem_append_right _ (List.mem_append_right _ (List.mem_append_right _ (List.mem_append_right _ (List.mem_append_right _ (List.mem_append_right _ (List.mem_append_right _ (List.mem_append_right _ (List.mem_append_right _ (List.mem_append_right _ (List.mem_append_right _ (List.mem_append_left _ h)))))))))))))))))))))))
theorem zs17 : ∀ w ∈ wsL_law_r17, w ∈ wsL_law := fun _ h => List.mem_append_left _ (List.mem_append_left _ (List.mem_append_left _ (List.mem_append_left _ (List.mem_append_left _ (List.mem_append_left _ (List.mem_append_left _ (List.mem_append_left _ (List.mem_append_right _ (List.mem_append_right _ (List.mem_append_right _ (List.mem_append_right _ (List.mem_append_right _ (List.mem_append_right _ (List.mem_append_right _ (List.mem_append_right _ (List.mem_append_right _ (List.mem_append_right _ (List.mem_append_right _ (List.mem_append_right _ (List.mem_append_right _ (List.mem_append_right _ (List.mem_append_right _ (List.mem_append_right _ (List.mem_append_left _ h))))))))))))))))))))))))
theorem zs18 : ∀ w ∈ wsL_law_r18, w ∈ wsL_law := fun _ h => List.mem_append_left _ (List.mem_append_left _ (List.mem_append_left _ (List.mem_append_left _ (List.mem_append_left _ (List.mem_append_left _ (List.mem_append_left _ (List.mem_append_left _ (List.mem_append_right _ (List.mem_append_right _ (List.mem_append_right _ (List.mem_append_right _ (List.mem_append_right _ (List.mem_append_right _ (List.mem_append_right _ (List.mem_append_right _ (List.mem_append_right _ (List.mem_append_right _ (List.mem_append_right _ (List.mem_append_right _ (List.mem_append_right _ (List.mem_append_right _ (List.mem_append_right _ (List.mem_append_right _ (List.mem_append_right _ (List.mem_append_left _ h)))))))))))))))))))))))))
theorem zs19 : ∀ w ∈ wsL_law_r19, w ∈ wsL_law := fun _ h => List.mem_append_left _ (List.mem_append_left _ (List.mem_append_left _ (List.mem_append_left _ (List.mem_append_left _ (List.mem_append_left _ (List.mem_append_left _ (List.mem_append_left _ (List.mem_append_right _ (List.mem_append_right _ (List.mem_append_right _ (List.mem_append_right _ (List.mem_append_right _ (List.mem_append_right _ (List.mem_append_right _ (List.mem_append_right _ (List.mem_append_right _ (List.mem_append_right _ (List.mem_append_right _ (List.mem_append_right _ (List.mem_append_right _ (List.mem_append_right _ (List.mem_append_right _ (List.mem_append_right _ (List.mem_append_right _ (List.mem_append_right _ (List.mem_append_left _ h))))))))))))))))))))))))))
theorem zs20 : ∀ w ∈ wsL_law_r20, w ∈ wsL_law := fun _ h => List.mem_append_left _ (List.mem_append_left _ (List.mem_append_left _ (List.mem_append_left _ (List.mem_append_left _ (List.mem_append_left _ (List.mem_append_left _ (List.mem_append_left _ (List.mem_append_right _ (List.mem_append_right _ (List.mem_append_right _ (List.mem_append_right _ (List.mem_append_right _ (List.mem_append_right _ (List.mem_append_right _ (List.mem_append_right _ (List.mem_append_right _ (List.mem_append_right _ (List.mem_append_right _ (List.mem_append_right _ (List.mem_append_right _ (List.mem_append_right _ (List.mem_append_right _ (List.mem_append_right _ (List.mem_append_right _ (List.mem_append_right _ (List.mem_append_right _ (List.mem_append_left _ h)))))))))))))))))))))))))))
theorem zs21 : ∀ w ∈ wsL_law_r21, w ∈ wsL_law := fun _ h => List.mem_append_left _ (List.mem_append_left _ (List.mem_append_left _ (List.mem_append_left _ (List.mem_append_left _ (List.mem_append_left _ (List.mem_append_left _ (List.mem_append_left _ (List.mem_append_right _ (List.mem_append_right _ (List.mem_append_right _ (List.mem_append_right _ (List.mem_append_right _ (List.mem_append_right _ (List.mem_append_right _ (List.mem_append_right _ (List.mem_append_right _ (List.mem_append_right _ (List.mem_append_right _ (List.mem_append_right _ (List.mem_append_right _ (List.mem_append_right _ (List.mem_append_right _ (List.mem_append_right _ (List.mem_append_right _ (List.mem_append_right _ (List.mem_append_right _ (List.mem_append_right _ (List.mem_append_left _ h))))))))))))))))))))))))))))
theorem zs22 : ∀ w ∈ wsL_law_r22, w ∈ wsL_law := fun _ h => List.mem_append_left _ (List.mem_append_left _ (List.mem_append_left _ (List.mem_append_left _ (List.mem_append_left _ (List.mem_append_left _ (List.mem_append_left _ (List.mem_append_left _ (List.mem_append_right _ (List.mem_append_right _ (List.mem_append_right _ (List.mem_append_right _ (List.mem_append_right _ (List.mem_append_right _ (List.mem_append_right _ (List.mem_append_right _ (List.mem_append_right _ (List.mem_append_right _ (List.mem_append_right _ (List.mem_append_right _ (List.mem_append_right _ (List.mem_append_right _ (List.mem_append_right _ (List.mem_append_right _ (List.mem_append_right _ (List.mem_append_right _ (List.mem_append_right _ (List.mem_append_right _ (List.mem_append_right _ (List.mem_append_left _ h)))))))))))))))))))))))))))))
theorem zs23 : ∀ w ∈ wsL_law_r23, w ∈ wsL_law := fun _ h => List.mem_append_left _ (List.mem_append_left _ (List.mem_append_left _ (List.mem_append_left _ (List.mem_append_left _ (List.mem_append_left _ (List.mem_append_left _ (List.mem_append_left _ (List.mem_append_right _ (List.mem_append_right _ (List.mem_append_right _ (List.mem_append_right _ (List.mem_append_right _ (List.mem_append_right _ (List.mem_append_right _ (List.mem_append_right _ (List.mem_append_right _ (List.mem_append_right _ (List.mem_append_right _ (List.mem_append_right _ (List.mem_append_right _ (List.mem_append_right _ (List.mem_append_right _ (List.mem_append_right _ (List.mem_append_right _ (List.mem_append_right _ (List.mem_append_right _ (List.mem_append_right _ (List.mem_append_right _ (List.mem_append_right _ (List.mem_append_left _ h))))))))))))))))))))))))))))))
theorem zs24 : ∀ w ∈ wsL_law_r24, w ∈ wsL_law := fun _ h => List.mem_append_left _ (List.mem_append_left _ (List.mem_append_left _ (List.mem_append_left _ (List.mem_append_left _ (List.mem_append_left _ (List.mem_append_left _ (List.mem_append_left _ (List.mem_append_right _ (List.mem_append_right _ (List.mem_append_right _ (List.mem_append_right _ (List.mem_append_right _ (List.mem_append_right _ (List.mem_append_right _ (List.mem_append_right _ (List.mem_append_right _ (List.mem_append_right _ (List.mem_append_right _ (List.mem_append_right _ (List.mem_append_right _ (List.mem_append_right _ (List.mem_append_right _ (List.mem_append_right _ (List.mem_append_right _ (List.mem_append_right _ (List.mem_append_right _ (List.mem_append_right _ (List.mem_append_right _ (List.mem_append_right _ (List.mem_append_right _ (List.mem_append_left _ h)))))))))))))))))))))))))))))))
theorem zs25 : ∀ w ∈ wsL_law_r25, w ∈ wsL_law := fun _ h => List.mem_append_left _ (List.mem_append_left _ (List.mem_append_left _ (List.mem_append_left _ (List.mem_append_left _ (List.mem_append_left _ (List.mem_append_left _ (List.mem_append_left _ (List.mem_append_right _ (List.mem_append_right _ (List.mem_append_right _ (List.mem_append_right _ (List.mem_append_right _ (List.mem_append_right _ (List.mem_append_right _ (List.mem_append_right _ (List.mem_append_right _ (List.mem_append_right _ (List.mem_append_right _ (List.mem_append_right _ (List.mem_append_right _ (List.mem_append_right _ (List.mem_append_right _ (List.mem_append_right _ (List.mem_append_right _ (List.mem_append_right _ (List.mem_append_right _ (List.mem_append_right _ (List.mem_append_right _ (List.mem_append_right _ (List.mem_append_right _ (List.mem_append_right _ (List.mem_append_left _ h))))))))))))))))))))))))))))))))
theorem zs26 : ∀ w ∈ wsL_law_r26, w ∈ wsL_law := fun _ h => List.mem_append_left _ (List.mem_append_left _ (List.mem_append_left _ (List.mem_append_left _ (List.mem_append_left _ (List.mem_append_left _ (List.mem_append_left _ (List.mem_append_left _ (List.mem_append_right _ (List.mem_append_right _ (List.mem_append_right _ (List.mem_append_right _ (List.mem_append_right _ (List.mem_append_right _ (List.mem_append_right _ (List.mem_append_right _ (List.mem_append_right _ (List.mem_append_right _ (List.mem_append_right _ (List.mem_append_right _ (List.mem_append_right _ (List.mem_append_right _ (List.mem_append_right _ (List.mem_append_right _ (List.mem_append_right _ (List.mem_append_right _ (List.mem_append_right _ (List.mem_append_right _ (List.mem_append_right _ (List.mem_append_right _ (List.mem_append_right _ (List.mem_append_right _ (List.mem_append_right _ (List.mem_append_left _ h)))))))))))))))))))))))))))))))))
theorem zs27 : ∀ w ∈ wsL_law_r27, w ∈ wsL_law := fun _ h => List.mem_append_left _ (List.mem_append_left _ (List.mem_append_left _ (List.mem_append_left _ (List.mem_append_left _ (List.mem_append_left _ (List.mem_append_left _ (List.mem_append_left _ (List.mem_append_right _ (List.mem_append_right _ (List.mem_append_right _ (List.mem_append_right _ (List.mem_append_right _ (List.mem_append_right _ (List.mem_append_right _ (List.mem_append_right _ (List.mem_append_right _ (List.mem_append_right _ (List.mem_append_right _ (List.mem_append_right _ (List.mem_append_right _ (List.mem_append_right _ (List.mem_append_right _ (List.mem_append_right _ (List.mem_append_right _ (List.mem_append_right _ (List.mem_append_right _ (List.mem_append_right _ (List.mem_append_right _ (List.mem_append_right _ (List.mem_append_right _ (List.mem_append_right _ (List.mem_append_right _ (List.mem_append_right _ (List.mem_append_left _ h))))))))))))))))))))))))))))))))))
theorem zs28 : ∀ w ∈ wsL_law_r28, w ∈ wsL_law := fun _ h => List.mem_append_left _ (List.mem_append_left _ (List.mem_append_left _ (List.mem_append_left _ (List.mem_append_left _ (List.mem_append_left _ (List.mem_append_left _ (List.mem_append_left _ (List.mem_append_right _ (List.mem_append_right _ (List.mem_append_right _ (List.mem_append_right _ (List.mem_append_right _ (List.mem_append_right _ (List.mem_append_right _ (List.mem_append_right _ (List.mem_append_right _ (List.mem_append_right _ (List.mem_append_right _ (List.mem_append_right _ (List.mem_append_right _ (List.mem_append_right _ (List.mem_append_right _ (List.mem_append_right _ (List.mem_append_right _ (List.mem_append_right _ (List.mem_append_right _ (List.mem_append_right _ (List.mem_append_right _ (List.mem_append_right _ (List.mem_append_right _ (List.mem_append_right _ (List.mem_append_right _ (List.mem_append_right _ (List.mem_append_right _ (List.mem_append_left _ h)))))))))))))))))))))))))))))))))))
theorem zs29 : ∀ w ∈ wsL_law_r29, w ∈ wsL_law := fun _ h => List.mem_append_left _ (List.mem_append_left _ (List.mem_append_left _ (List.mem_append_left _ (List.mem_append_left _ (List.mem_append_left _ (List.mem_append_left _ (List.mem_append_left _ (List.mem_append_right _ (List.mem_append_right _ (List.mem_append_right _ (List.mem_append_right _ (List.mem_append_right _ (List.mem_append_right _ (List.mem_append_right _ (List.mem_append_right _ (List.mem_append_right _ (List.mem_append_right _ (List.mem_append_right _ (List.mem_append_right _ (List.mem_append_right _ (List.mem_append_right _ (List.mem_append_right _ (List.mem_append_right _ (List.mem_append_right _ (List.mem_append_right _ (List.mem_append_right _ (List.mem_append_right _ (List.mem_append_right _ (List.mem_append_right _ (List.mem_append_right _ (List.mem_append_right _ (List.mem_append_right _ (List.mem_append_right _ (List.mem_append_right _ (List.mem_append_right _ (List.mem_append_left _ h))))))))))))))))))))))))))))))))))))
theorem zs30 : ∀ w ∈ wsL_law_r30, w ∈ wsL_law := fun _ h => List.mem_append_left _ (List.mem_append_left _ (List.mem_append_left _ (List.mem_append_left _ (List.mem_append_left _ (List.mem_append_left _ (List.mem_append_left _ (List.mem_append_left _ (List.mem_append_right _ (List.mem_append_right _ (List.mem_append_right _ (List.mem_append_right _ (List.mem_append_right _ (List.mem_append_right _ (List.mem_append_right _ (List.mem_append_right _ (List.mem_append_right _ (List.mem_append_right _ (List.mem_append_right _ (List.mem_append_right _ (List.mem_append_right _ (List.mem_append_right _ (List.mem_append_right _ (List.mem_append_right _ (List.mem_append_right _ (List.mem_append_right _ (List.mem_append_right _ (List.mem_append_right _ (List.mem_append_right _ (List.mem_append_right _ (List.mem_append_right _ (List.mem_append_right _ (List.mem_append_right _ (List.mem_append_right _ (List.mem_append_right _ (List.mem_append_right _ (List.mem_append_right _ (List.mem_append_left _ h)))))))))))))))))))))))))))))))))))))
theorem zs31 : ∀ w ∈ wsL_law_r31, w ∈ wsL_law := fun _ h => List.mem_append_left _ (List.mem_append_left _ (List.mem_append_left _ (List.mem_append_left _ (List.mem_append_left _ (List.mem_append_left _ (List.mem_append_left _ (List.mem_append_left _ (List.mem_append_right _ (List.mem_append_right _ (List.mem_append_right _ (List.mem_append_right _ (List.mem_append_right _ (List.mem_append_right _ (List.mem_append_right _ (List.mem_append_right _ (List.mem_append_right _ (List.mem_append_right _ (List.mem_append_right _ (List.mem_append_right _ (List.mem_append_right _ (List.mem_append_right _ (List.mem_append_right _ (List.mem_append_right _ (List.mem_append_right _ (List.mem_append_right _ (List.mem_append_right _ (List.mem_append_right _ (List.mem_append_right _ (List.mem_append_right _ (List.mem_append_right _ (List.mem_append_right _ (List.mem_append_right _ (List.mem_append_right _ (List.mem_append_right _ (List.mem_append_right _ (List.mem_append_right _ (List.mem_append_right _ (List.mem_append_left _ h))))))))))))))))))))))))))))))))))))))
theorem zs32 : ∀ w ∈ wsL_law_r32, w ∈ wsL_law := fun _ h => List.mem_append_left _ (List.mem_append_left _ (List.mem_append_left _ (List.mem_append_left _ (List.mem_append_left _ (List.mem_append_left _ (List.mem_append_left _ (List.mem_append_left _ (List.mem_append_right _ (List.mem_append_right _ (List.mem_append_right _ (List.mem_append_right _ (List.mem_append_right _ (List.mem_append_right _ (List.mem_append_right _ (List.mem_append_right _ (List.mem_append_right _ (List.mem_append_right _ (List.mem_append_right _ (List.mem_append_right _ (List.mem_append_right _ (List.mem_append_right _ (List.mem_append_right _ (List.mem_append_right _ (List.mem_append_right _ (List.mem_append_right _ (List.mem_append_right _ (List.mem_append_right _ (List.mem_append_right _ (List.mem_append_right _ (List.mem_append_right _ (List.mem_append_right _ (List.mem_append_right _ (List.mem_append_right _ (List.mem_append_right _ (List.mem_append_right _ (List.mem_append_right _ (List.mem_append_right _ (List.mem_append_right _ (List.mem_append_left _ h)))))))))))))))))))))))))))))))))))))))
theorem zs33 : ∀ w ∈ wsL_law_r33, w ∈ wsL_law := fun _ h => List.mem_append_left _ (List.mem_append_left _ (List.mem_append_left _ (List.mem_append_left _ (List.mem_append_left _ (List.mem_append_left _ (List.mem_append_left _ (List.mem_append_left _ (List.mem_append_right _ (List.mem_append_right _ (List.mem_append_right _ (List.mem_append_right _ (List.mem_append_right _ (List.mem_append_right _ (List.mem_append_right _ (List.mem_append_right _ (List.mem_append_right _ (List.mem_append_right _ (List.mem_append_right _ (List.mem_append_right _ (List.mem_append_right _ (List.mem_append_right _ (List.mem_append_right _ (List.mem_append_right _ (List.mem_append_right _ (List.mem_append_right _ (List.mem_append_right _ (List.mem_append_right _ (List.mem_append_right _ (List.mem_append_right _ (List.mem_append_right _ (List.mem_append_right _ (List.mem_append_right _ (List.mem_append_right _ (List.mem_append_right _ (List.mem_append_right _ (List.mem_append_right _ (List.mem_append_right _ (List.mem_append_right _ (List.mem_append_right _ (List.mem_append_left _ h))))))))))))))))))))))))))))))))))))))))
theorem zs34 : ∀ w ∈ wsL_law_r34, w ∈ wsL_law := fun _ h => List.mem_append_left _ (List.mem_append_left _ (List.mem_append_left _ (List.mem_append_left _ (List.mem_append_left _ (List.mem_append_left _ (List.mem_append_left _ (List.mem_append_left _ (List.mem_append_right _ (List.mem_append_right _ (List.mem_append_right _ (List.mem_append_right _ (List.mem_append_right _ (List.mem_append_right _ (List.mem_append_right _ (List.mem_append_right _ (List.mem_append_right _ (List.mem_append_right _ (List.mem_append_right _ (List.mem_append_right _ (List.mem_append_right _ (List.mem_append_right _ (List.mem_append_right _ (List.mem_append_right _ (List.mem_append_right _ (List.mem_append_right _ (List.mem_append_right _ (List.mem_append_right _ (List.mem_append_right _ (List.mem_append_right _ (List.mem_append_right _ (List.mem_append_right _ (List.mem_append_right _ (List.mem_append_right _ (List.mem_append_right _ (List.mem_append_right _ (List.mem_append_right _ (List.mem_append_right _ (List.mem_append_right _ (List.mem_append_right _ (List.mem_append_right _ (List.mem_append_left _ h)))))))))))))))))))))))))))))))))))))))))
theorem zs35 : ∀ w ∈ wsL_law_r35, w ∈ wsL_law := fun _ h => List.mem_append_left _ (List.mem_append_left _ (List.mem_append_left _ (List.mem_append_left _ (List.mem_append_left _ (List.mem_append_left _ (List.mem_append_left _ (List.mem_append_left _ (List.mem_append_right _ (List.mem_append_right _ (List.mem_append_right _ (List.mem_append_right _ (List.mem_append_right _ (List.mem_append_right _ (List.mem_append_right _ (List.mem_append_right _ (List.mem_append_right _ (List.mem_append_right _ (List.mem_append_right _ (List.mem_append_right _ (List.mem_append_right _ (List.mem_append_right _ (List.mem_append_right _ (List.mem_append_right _ (List.mem_append_right _ (List.mem_append_right _ (List.mem_append_right _ (List.mem_append_right _ (List.mem_append_right _ (List.mem_append_right _ (List.mem_append_right _ (List.mem_append_right _ (List.mem_append_right _ (List.mem_append_right _ (List.mem_append_right _ (List.mem_append_right _ (List.mem_append_right _ (List.mem_append_right _ (List.mem_append_right _ (List.mem_append_right _ (List.mem_append_right _ (List.mem_append_right _ (List.mem_append_left _ h))))))))))))))))))))))))))))))))))))))))))
theorem zs36 : ∀ w ∈ wsL_law_r36, w ∈ wsL_law := fun _ h => List.mem_append_left _ (List.mem_append_left _ (List.mem_append_left _ (List.mem_append_left _ (List.mem_append_left _ (List.mem_append_left _ (List.mem_append_left _ (List.mem_append_left _ (List.mem_append_right _ (List.mem_append_right _ (List.mem_append_right _ (List.mem_append_right _ (List.mem_append_right _ (List.mem_append_right _ (List.mem_append_right _ (List.mem_append_right _ (List.mem_append_right _ (List.mem_append_right _ (List.mem_append_right _ (List.mem_append_right _ (List.mem_append_right _ (List.mem_append_right _ (List.mem_append_right _ (List.mem_append_right _ (List.mem_append_right _ (List.mem_append_right _ (List.mem_append_right _ (List.mem_append_right _ (List.mem_append_right _ (List.mem_append_right _ (List.mem_append_right _ (List.mem_append_right _ (List.mem_append_right _ (List.mem_append_right _ (List.mem_append_right _ (List.mem_append_right _ (List.mem_append_right _ (List.mem_append_right _ (List.mem_append_right _ (List.mem_append_right _ (List.mem_append_right _ (List.mem_append_right _ (List.mem_append_right _ (List.mem_append_left _ h)))))))))))))))))))))))))))))))))))))))))))
theorem zs37 : ∀ w ∈ wsL_law_r37, w ∈ wsL_law := fun _ h => List.mem_append_left _ (List.mem_append_left _ (List.mem_append_left _ (List.mem_append_left _ (List.mem_append_left _ (List.mem_append_left _ (List.mem_append_left _ (List.mem_append_left _ (List.mem_append_right _ (List.mem_append_right _ (List.mem_append_right _ (List.mem_append_right _ (List.mem_append_right _ (List.mem_append_right _ (List.mem_append_right _ (List.mem_append_right _ (List.mem_append_right _ (List.mem_append_right _ (List.mem_append_right _ (List.mem_append_right _ (List.mem_append_right _ (List.mem_append_right _ (List.mem_append_right _ (List.mem_append_right _ (List.mem_append_right _ (List.mem_append_right _ (List.mem_append_right _ (List.mem_append_right _ (List.mem_append_right _ (List.mem_append_right _ (List.mem_append_right _ (List.mem_append_right _ (List.mem_append_right _ (List.mem_append_right _ (List.mem_append_right _ (List.mem_append_right _ (List.mem_append_right _ (List.mem_append_right _ (List.mem_append_right _ (List.mem_append_right _ (List.mem_append_right _ (List.mem_append_right _ (List.mem_append_right _ (List.mem_append_right _ (List.mem_append_left _ h))))))))))))))))))))))))))))))))))))))))))))
theorem zs38 : ∀ w ∈ wsL_law_r38, w ∈ wsL_law := fun _ h => List.mem_append_left _ (List.mem_append_left _ (List.mem_append_left _ (List.mem_append_left _ (List.mem_append_left _ (List.mem_append_left _ (List.mem_append_left _ (List.mem_append_left _ (List.mem_append_right _ (List.mem_append_right _ (List.mem_append_right _ (List.mem_append_right _ (List.mem_append_right _ (List.mem_append_right _ (List.mem_append_right _ (List.mem_append_right _ (List.mem_append_right _ (List.mem_append_right _ (List.mem_append_right _ (List.mem_append_right _ (List.mem_append_right _ (List.mem_append_right _ (List.mem_append_right _ (List.mem_append_right _ (List.mem_append_right _ (List.mem_append_right _ (List.mem_append_right _ (List.mem_append_right _ (List.mem_append_right _ (List.mem_append_right _ (List.mem_append_right _ (List.mem_append_right _ (List.mem_append_right _ (List.mem_append_right _ (List.mem_append_right _ (List.mem_append_right _ (List.mem_append_right _ (List.mem_append_right _ (List.mem_append_right _ (List.mem_append_right _ (List.mem_append_right _ (List.mem_append_right _ (List.mem_append_right _ (List.mem_append_right _ (List.mem_append_right _ (List.mem_append_left _ h)))))))))))))))))))))))))))))))))))))))))))))
theorem zs39 : ∀ w ∈ wsL_law_r39, w ∈ wsL_law := fun _ h => List.mem_append_left _ (List.mem_append_left _ (List.mem_append_left _ (List.mem_append_left _ (List.mem_append_left _ (List.mem_append_left _ (List.mem_append_left _ (List.mem_append_left _ (List.mem_append_right _ (List.mem_append_right _ (List.mem_append_right _ (List.mem_append_right _ (List.mem_append_right _ (List.mem_append_right _ (List.mem_append_right _ (List.mem_append_right _ (List.mem_append_right _ (List.mem_append_right _ (List.mem_append_right _ (List.mem_append_right _ (List.mem_append_right _ (List.mem_append_right _ (List.mem_append_right _ (List.mem_append_right _ (List.mem_append_right _ (List.mem_append_right _ (List.mem_append_right _ (List.mem_append_right _ (List.mem_append_right _ (List.mem_append_right _ (List.mem_append_right _ (List.mem_append_right _ (List.mem_append_right _ (List.mem_append_right _ (List.mem_append_right _ (List.mem_append_right _ (List.mem_append_right _ (List.mem_append_right _ (List.mem_append_right _ (List.mem_append_right _ (List.mem_append_right _ (List.mem_append_right _ (List.mem_append_right _ (List.mem_append_right _ (List.mem_append_right _ (List.mem_append_right _ (List.mem_append_left _ h))))))))))))))))))))))))))))))))))))))))))))))
theorem zs40 : ∀ w ∈ wsL_law_r40, w ∈ wsL_law := fun _ h => List.mem_append_left _ (List.mem_append_left _ (List.mem_append_left _ (List.mem_append_left _ (List.mem_append_left _ (List.mem_append_left _ (List.mem_append_left _ (List.mem_append_left _ (List.mem_append_right _ (List.mem_append_right _ (List.mem_append_right _ (List.mem_append_right _ (List.mem_append_right _ (List.mem_append_right _ (List.mem_append_right _ (List.mem_append_right _ (List.mem_append_right _ (List.mem_append_right _ (List.mem_append_right _ (List.mem_append_right _ (List.mem_append_right _ (List.mem_append_right _ (List.mem_append_right _ (List.mem_append_right _ (List.mem_append_right _ (List.mem_append_right _ (List.mem_append_right _ (List.mem_append_right _ (List.mem_append_right _ (List.mem_append_right _ (List.mem_append_right _ (List.mem_append_right _ (List.mem_append_right _ (List.mem_append_right _ (List.mem_append_right _ (List.mem_append_right _ (List.mem_append_right _ (List.mem_append_right _ (List.mem_append_right _ (List.mem_append_right _ (List.mem_append_right _ (List.mem_append_right _ (List.mem_append_right _ (List.mem_append_right _ (List.mem_append_right _ (List.mem_append_right _ (List.mem_append_right _ (List.mem_append_left _ h)))))))))))))))))))))))))))))))))))))))))))))))
theorem zs41 : ∀ w ∈ wsL_law_r41, w ∈ wsL_law := fun _ h => List.mem_append_left _ (List.mem_append_left _ (List.mem_append_left _ (List.mem_append_left _ (List.mem_append_left _ (List.mem_append_left _ (List.mem_append_left _ (List.mem_append_left _ (List.mem_append_right _ (List.mem_append_right _ (List.mem_append_right _ (List.mem_append_right _ (List.mem_append_right _ (List.mem_append_right _ (List.mem_append_right _ (List.mem_append_right _ (List.mem_append_right _ (List.mem_append_right _ (List.mem_append_right _ (List.mem_append_right _ (List.mem_append_right _ (List.mem_append_right _ (List.mem_append_right _ (List.mem_append_right _ (List.mem_append_right _ (List.mem_append_right _ (List.mem_append_right _ (List.mem_append_right _ (List.mem_append_right _ (List.mem_append_right _ (List.mem_append_right _ (List.mem_append_right _ (List.mem_append_right _ (List.mem_append_right _ (List.mem_append_right _ (List.mem_append_right _ (List.mem_append_right _ (List.mem_append_right _ (List.mem_append_right _ (List.mem_append_right _ (List.mem_append_right _ (List.mem_append_right _ (List.mem_append_right _ (List.mem_append_right _ (List.mem_append_right _ (List.mem_append_right _ (List.mem_append_right _ (List.mem_append_right _ (h))))))))))))))))))))))))))))))))))))))))))))))))
end
section
theorem z_trivial : True := trivial
end
