section
-- ===== PART A: goes FIRST, ahead of the names: the tables' words, and 'selects' of the private methods out of them =====
/-- a private method of a class that the tables say can be made, by its rows of tables_1 -/
def lw_okq (q : MethodName × Nat) : Prop := (q.1.cls ≠ "java/lang/invoke/MethodHandle" ∧ q.1.cls ≠ "java/lang/invoke/VarHandle") ∧ Cond.instantiable q.1.cls q.2 ∈ tables_1 ∧ Cond.privateMethod q.1 ∈ tables_1 ∧ Cond.instanceMethod q.1 ∈ tables_1
theorem lw_p0 : lw_okq (⟨"WallsOfPrisoners$Reader", "advance", "()V"⟩, 7) := ⟨⟨by decide +kernel, by decide +kernel⟩, List.mem_of_getElem? (i := 48) (by decide +kernel), List.mem_of_getElem? (i := 230) (by decide +kernel), List.mem_of_getElem? (i := 231) (by decide +kernel)⟩
theorem lw_p1 : lw_okq (⟨"WallsOfPrisoners$Reader", "letterAt", "(I)I"⟩, 7) := ⟨⟨by decide +kernel, by decide +kernel⟩, List.mem_of_getElem? (i := 48) (by decide +kernel), List.mem_of_getElem? (i := 234) (by decide +kernel), List.mem_of_getElem? (i := 235) (by decide +kernel)⟩
theorem lw_p2 : lw_okq (⟨"WallsOfPrisoners$Reader", "readDigits", "()V"⟩, 7) := ⟨⟨by decide +kernel, by decide +kernel⟩, List.mem_of_getElem? (i := 48) (by decide +kernel), List.mem_of_getElem? (i := 241) (by decide +kernel), List.mem_of_getElem? (i := 242) (by decide +kernel)⟩
theorem lw_p3 : lw_okq (⟨"WallsOfPrisoners$Reader", "readWord", "()V"⟩, 7) := ⟨⟨by decide +kernel, by decide +kernel⟩, List.mem_of_getElem? (i := 48) (by decide +kernel), List.mem_of_getElem? (i := 248) (by decide +kernel), List.mem_of_getElem? (i := 249) (by decide +kernel)⟩
theorem lw_p4 : lw_okq (⟨"WallsOfPrisoners$Reader", "isHere", "(Ljava/lang/String;)Z"⟩, 7) := ⟨⟨by decide +kernel, by decide +kernel⟩, List.mem_of_getElem? (i := 48) (by decide +kernel), List.mem_of_getElem? (i := 267) (by decide +kernel), List.mem_of_getElem? (i := 268) (by decide +kernel)⟩
theorem lw_p5 : lw_okq (⟨"WallsOfPrisoners$Reader", "readPart", "(I)Z"⟩, 7) := ⟨⟨by decide +kernel, by decide +kernel⟩, List.mem_of_getElem? (i := 48) (by decide +kernel), List.mem_of_getElem? (i := 276) (by decide +kernel), List.mem_of_getElem? (i := 277) (by decide +kernel)⟩
theorem lw_p6 : lw_okq (⟨"WallsOfPrisoners$Reader", "readEither", "(I)Z"⟩, 7) := ⟨⟨by decide +kernel, by decide +kernel⟩, List.mem_of_getElem? (i := 48) (by decide +kernel), List.mem_of_getElem? (i := 280) (by decide +kernel), List.mem_of_getElem? (i := 281) (by decide +kernel)⟩
theorem lw_p7 : lw_okq (⟨"WallsOfPrisoners$Reader", "readBoth", "(I)Z"⟩, 7) := ⟨⟨by decide +kernel, by decide +kernel⟩, List.mem_of_getElem? (i := 48) (by decide +kernel), List.mem_of_getElem? (i := 284) (by decide +kernel), List.mem_of_getElem? (i := 285) (by decide +kernel)⟩
theorem lw_p8 : lw_okq (⟨"WallsOfPrisoners$Reader", "readDenial", "(I)Z"⟩, 7) := ⟨⟨by decide +kernel, by decide +kernel⟩, List.mem_of_getElem? (i := 48) (by decide +kernel), List.mem_of_getElem? (i := 288) (by decide +kernel), List.mem_of_getElem? (i := 289) (by decide +kernel)⟩
theorem lw_p9 : lw_okq (⟨"WallsOfPrisoners$Reader", "readComparison", "(I)Z"⟩, 7) := ⟨⟨by decide +kernel, by decide +kernel⟩, List.mem_of_getElem? (i := 48) (by decide +kernel), List.mem_of_getElem? (i := 292) (by decide +kernel), List.mem_of_getElem? (i := 293) (by decide +kernel)⟩
theorem lw_p10 : lw_okq (⟨"WallsOfPrisoners$Reader", "readSum", "(I)Z"⟩, 7) := ⟨⟨by decide +kernel, by decide +kernel⟩, List.mem_of_getElem? (i := 48) (by decide +kernel), List.mem_of_getElem? (i := 296) (by decide +kernel), List.mem_of_getElem? (i := 297) (by decide +kernel)⟩
theorem lw_p11 : lw_okq (⟨"WallsOfPrisoners$Reader", "readTerm", "(I)Z"⟩, 7) := ⟨⟨by decide +kernel, by decide +kernel⟩, List.mem_of_getElem? (i := 48) (by decide +kernel), List.mem_of_getElem? (i := 300) (by decide +kernel), List.mem_of_getElem? (i := 301) (by decide +kernel)⟩
theorem lw_p12 : lw_okq (⟨"WallsOfPrisoners$Reader", "readOne", "(I)Z"⟩, 7) := ⟨⟨by decide +kernel, by decide +kernel⟩, List.mem_of_getElem? (i := 48) (by decide +kernel), List.mem_of_getElem? (i := 304) (by decide +kernel), List.mem_of_getElem? (i := 305) (by decide +kernel)⟩
theorem lw_p13 : lw_okq (⟨"WallsOfPrisoners$Reader", "readNegation", "(I)Z"⟩, 7) := ⟨⟨by decide +kernel, by decide +kernel⟩, List.mem_of_getElem? (i := 48) (by decide +kernel), List.mem_of_getElem? (i := 312) (by decide +kernel), List.mem_of_getElem? (i := 313) (by decide +kernel)⟩
theorem lw_p14 : lw_okq (⟨"WallsOfPrisoners$Reader", "readBrackets", "(I)Z"⟩, 7) := ⟨⟨by decide +kernel, by decide +kernel⟩, List.mem_of_getElem? (i := 48) (by decide +kernel), List.mem_of_getElem? (i := 316) (by decide +kernel), List.mem_of_getElem? (i := 317) (by decide +kernel)⟩
theorem lw_p15 : lw_okq (⟨"WallsOfPrisoners$Marsh", "asBrother", "(II)I"⟩, 10) := ⟨⟨by decide +kernel, by decide +kernel⟩, List.mem_of_getElem? (i := 77) (by decide +kernel), List.mem_of_getElem? (i := 432) (by decide +kernel), List.mem_of_getElem? (i := 433) (by decide +kernel)⟩
def lw_privs_1 : List (MethodName × Nat) := [(⟨"WallsOfPrisoners$Reader", "advance", "()V"⟩, 7), (⟨"WallsOfPrisoners$Reader", "letterAt", "(I)I"⟩, 7), (⟨"WallsOfPrisoners$Reader", "readDigits", "()V"⟩, 7), (⟨"WallsOfPrisoners$Reader", "readWord", "()V"⟩, 7), (⟨"WallsOfPrisoners$Reader", "isHere", "(Ljava/lang/String;)Z"⟩, 7), (⟨"WallsOfPrisoners$Reader", "readPart", "(I)Z"⟩, 7), (⟨"WallsOfPrisoners$Reader", "readEither", "(I)Z"⟩, 7), (⟨"WallsOfPrisoners$Reader", "readBoth", "(I)Z"⟩, 7), (⟨"WallsOfPrisoners$Reader", "readDenial", "(I)Z"⟩, 7), (⟨"WallsOfPrisoners$Reader", "readComparison", "(I)Z"⟩, 7), (⟨"WallsOfPrisoners$Reader", "readSum", "(I)Z"⟩, 7), (⟨"WallsOfPrisoners$Reader", "readTerm", "(I)Z"⟩, 7), (⟨"WallsOfPrisoners$Reader", "readOne", "(I)Z"⟩, 7), (⟨"WallsOfPrisoners$Reader", "readNegation", "(I)Z"⟩, 7), (⟨"WallsOfPrisoners$Reader", "readBrackets", "(I)Z"⟩, 7), (⟨"WallsOfPrisoners$Marsh", "asBrother", "(II)I"⟩, 10)]
theorem lw_r1 : ∀ q ∈ lw_privs_1, lw_okq q := List.forall_mem_cons.mpr ⟨lw_p0, List.forall_mem_cons.mpr ⟨lw_p1, List.forall_mem_cons.mpr ⟨lw_p2, List.forall_mem_cons.mpr ⟨lw_p3, List.forall_mem_cons.mpr ⟨lw_p4, List.forall_mem_cons.mpr ⟨lw_p5, List.forall_mem_cons.mpr ⟨lw_p6, List.forall_mem_cons.mpr ⟨lw_p7, List.forall_mem_cons.mpr ⟨lw_p8, List.forall_mem_cons.mpr ⟨lw_p9, List.forall_mem_cons.mpr ⟨lw_p10, List.forall_mem_cons.mpr ⟨lw_p11, List.forall_mem_cons.mpr ⟨lw_p12, List.forall_mem_cons.mpr ⟨lw_p13, List.forall_mem_cons.mpr ⟨lw_p14, List.forall_mem_cons.mpr ⟨lw_p15, fun _ h => absurd h List.not_mem_nil⟩⟩⟩⟩⟩⟩⟩⟩⟩⟩⟩⟩⟩⟩⟩⟩
theorem lw_p16 : lw_okq (⟨"WallsOfPrisoners$Orders", "seekFrom", "(III)V"⟩, 6) := ⟨⟨by decide +kernel, by decide +kernel⟩, List.mem_of_getElem? (i := 121) (by decide +kernel), List.mem_of_getElem? (i := 553) (by decide +kernel), List.mem_of_getElem? (i := 554) (by decide +kernel)⟩
theorem lw_p17 : lw_okq (⟨"WallsOfPrisoners$Orders", "between", "(II)I"⟩, 6) := ⟨⟨by decide +kernel, by decide +kernel⟩, List.mem_of_getElem? (i := 121) (by decide +kernel), List.mem_of_getElem? (i := 557) (by decide +kernel), List.mem_of_getElem? (i := 558) (by decide +kernel)⟩
theorem lw_p18 : lw_okq (⟨"WallsOfPrisoners$Orders", "closesBy", "(I)Z"⟩, 6) := ⟨⟨by decide +kernel, by decide +kernel⟩, List.mem_of_getElem? (i := 121) (by decide +kernel), List.mem_of_getElem? (i := 581) (by decide +kernel), List.mem_of_getElem? (i := 582) (by decide +kernel)⟩
theorem lw_p19 : lw_okq (⟨"WallsOfPrisoners$Orders", "weakestNow", "()I"⟩, 6) := ⟨⟨by decide +kernel, by decide +kernel⟩, List.mem_of_getElem? (i := 121) (by decide +kernel), List.mem_of_getElem? (i := 585) (by decide +kernel), List.mem_of_getElem? (i := 586) (by decide +kernel)⟩
theorem lw_p20 : lw_okq (⟨"WallsOfPrisoners$Orders", "change", "(II)V"⟩, 6) := ⟨⟨by decide +kernel, by decide +kernel⟩, List.mem_of_getElem? (i := 121) (by decide +kernel), List.mem_of_getElem? (i := 589) (by decide +kernel), List.mem_of_getElem? (i := 590) (by decide +kernel)⟩
theorem lw_p21 : lw_okq (⟨"WallsOfPrisoners", "readBack", "(LWallsOfPrisoners$Sheet;II)I"⟩, 8) := ⟨⟨by decide +kernel, by decide +kernel⟩, List.mem_of_getElem? (i := 15) (by decide +kernel), List.mem_of_getElem? (i := 612) (by decide +kernel), List.mem_of_getElem? (i := 613) (by decide +kernel)⟩
theorem lw_p22 : lw_okq (⟨"WallsOfPrisonersModel", "spell", "(IIIIIIIII)V"⟩, 44) := ⟨⟨by decide +kernel, by decide +kernel⟩, List.mem_of_getElem? (i := 687) (by decide +kernel), List.mem_of_getElem? (i := 693) (by decide +kernel), List.mem_of_getElem? (i := 694) (by decide +kernel)⟩
theorem lw_p23 : lw_okq (⟨"WallsOfPrisonersModel", "isOf", "(II)Z"⟩, 44) := ⟨⟨by decide +kernel, by decide +kernel⟩, List.mem_of_getElem? (i := 687) (by decide +kernel), List.mem_of_getElem? (i := 838) (by decide +kernel), List.mem_of_getElem? (i := 839) (by decide +kernel)⟩
theorem lw_p24 : lw_okq (⟨"WallsOfPrisonersModel", "isOne", "(I)Z"⟩, 44) := ⟨⟨by decide +kernel, by decide +kernel⟩, List.mem_of_getElem? (i := 687) (by decide +kernel), List.mem_of_getElem? (i := 842) (by decide +kernel), List.mem_of_getElem? (i := 843) (by decide +kernel)⟩
theorem lw_p25 : lw_okq (⟨"WallsOfPrisonersModel", "isPlace", "(I)Z"⟩, 44) := ⟨⟨by decide +kernel, by decide +kernel⟩, List.mem_of_getElem? (i := 687) (by decide +kernel), List.mem_of_getElem? (i := 846) (by decide +kernel), List.mem_of_getElem? (i := 847) (by decide +kernel)⟩
theorem lw_p26 : lw_okq (⟨"WallsOfPrisonersModel", "placeOf", "(I)I"⟩, 44) := ⟨⟨by decide +kernel, by decide +kernel⟩, List.mem_of_getElem? (i := 687) (by decide +kernel), List.mem_of_getElem? (i := 858) (by decide +kernel), List.mem_of_getElem? (i := 859) (by decide +kernel)⟩
theorem lw_p27 : lw_okq (⟨"WallsOfPrisonersModel", "spentOf", "(I)I"⟩, 44) := ⟨⟨by decide +kernel, by decide +kernel⟩, List.mem_of_getElem? (i := 687) (by decide +kernel), List.mem_of_getElem? (i := 862) (by decide +kernel), List.mem_of_getElem? (i := 863) (by decide +kernel)⟩
theorem lw_p28 : lw_okq (⟨"WallsOfPrisonersModel", "says", "(III)I"⟩, 44) := ⟨⟨by decide +kernel, by decide +kernel⟩, List.mem_of_getElem? (i := 687) (by decide +kernel), List.mem_of_getElem? (i := 866) (by decide +kernel), List.mem_of_getElem? (i := 867) (by decide +kernel)⟩
theorem lw_p29 : lw_okq (⟨"WallsOfPrisonersModel", "read", "(II)I"⟩, 44) := ⟨⟨by decide +kernel, by decide +kernel⟩, List.mem_of_getElem? (i := 687) (by decide +kernel), List.mem_of_getElem? (i := 870) (by decide +kernel), List.mem_of_getElem? (i := 871) (by decide +kernel)⟩
theorem lw_p30 : lw_okq (⟨"WallsOfPrisonersModel", "next", "()V"⟩, 44) := ⟨⟨by decide +kernel, by decide +kernel⟩, List.mem_of_getElem? (i := 687) (by decide +kernel), List.mem_of_getElem? (i := 874) (by decide +kernel), List.mem_of_getElem? (i := 875) (by decide +kernel)⟩
theorem lw_p31 : lw_okq (⟨"WallsOfPrisonersModel", "byteAt", "(I)I"⟩, 44) := ⟨⟨by decide +kernel, by decide +kernel⟩, List.mem_of_getElem? (i := 687) (by decide +kernel), List.mem_of_getElem? (i := 878) (by decide +kernel), List.mem_of_getElem? (i := 879) (by decide +kernel)⟩
def lw_privs_2 : List (MethodName × Nat) := [(⟨"WallsOfPrisoners$Orders", "seekFrom", "(III)V"⟩, 6), (⟨"WallsOfPrisoners$Orders", "between", "(II)I"⟩, 6), (⟨"WallsOfPrisoners$Orders", "closesBy", "(I)Z"⟩, 6), (⟨"WallsOfPrisoners$Orders", "weakestNow", "()I"⟩, 6), (⟨"WallsOfPrisoners$Orders", "change", "(II)V"⟩, 6), (⟨"WallsOfPrisoners", "readBack", "(LWallsOfPrisoners$Sheet;II)I"⟩, 8), (⟨"WallsOfPrisonersModel", "spell", "(IIIIIIIII)V"⟩, 44), (⟨"WallsOfPrisonersModel", "isOf", "(II)Z"⟩, 44), (⟨"WallsOfPrisonersModel", "isOne", "(I)Z"⟩, 44), (⟨"WallsOfPrisonersModel", "isPlace", "(I)Z"⟩, 44), (⟨"WallsOfPrisonersModel", "placeOf", "(I)I"⟩, 44), (⟨"WallsOfPrisonersModel", "spentOf", "(I)I"⟩, 44), (⟨"WallsOfPrisonersModel", "says", "(III)I"⟩, 44), (⟨"WallsOfPrisonersModel", "read", "(II)I"⟩, 44), (⟨"WallsOfPrisonersModel", "next", "()V"⟩, 44), (⟨"WallsOfPrisonersModel", "byteAt", "(I)I"⟩, 44)]
theorem lw_r2 : ∀ q ∈ lw_privs_2, lw_okq q := List.forall_mem_cons.mpr ⟨lw_p16, List.forall_mem_cons.mpr ⟨lw_p17, List.forall_mem_cons.mpr ⟨lw_p18, List.forall_mem_cons.mpr ⟨lw_p19, List.forall_mem_cons.mpr ⟨lw_p20, List.forall_mem_cons.mpr ⟨lw_p21, List.forall_mem_cons.mpr ⟨lw_p22, List.forall_mem_cons.mpr ⟨lw_p23, List.forall_mem_cons.mpr ⟨lw_p24, List.forall_mem_cons.mpr ⟨lw_p25, List.forall_mem_cons.mpr ⟨lw_p26, List.forall_mem_cons.mpr ⟨lw_p27, List.forall_mem_cons.mpr ⟨lw_p28, List.forall_mem_cons.mpr ⟨lw_p29, List.forall_mem_cons.mpr ⟨lw_p30, List.forall_mem_cons.mpr ⟨lw_p31, fun _ h => absurd h List.not_mem_nil⟩⟩⟩⟩⟩⟩⟩⟩⟩⟩⟩⟩⟩⟩⟩⟩
theorem lw_p32 : lw_okq (⟨"WallsOfPrisonersModel", "isWord", "(IIIIIIII)Z"⟩, 44) := ⟨⟨by decide +kernel, by decide +kernel⟩, List.mem_of_getElem? (i := 687) (by decide +kernel), List.mem_of_getElem? (i := 887) (by decide +kernel), List.mem_of_getElem? (i := 888) (by decide +kernel)⟩
theorem lw_p33 : lw_okq (⟨"WallsOfPrisonersModel", "isLetter", "(II)Z"⟩, 44) := ⟨⟨by decide +kernel, by decide +kernel⟩, List.mem_of_getElem? (i := 687) (by decide +kernel), List.mem_of_getElem? (i := 891) (by decide +kernel), List.mem_of_getElem? (i := 892) (by decide +kernel)⟩
theorem lw_p34 : lw_okq (⟨"WallsOfPrisonersModel", "part", "(Z)I"⟩, 44) := ⟨⟨by decide +kernel, by decide +kernel⟩, List.mem_of_getElem? (i := 687) (by decide +kernel), List.mem_of_getElem? (i := 895) (by decide +kernel), List.mem_of_getElem? (i := 896) (by decide +kernel)⟩
theorem lw_p35 : lw_okq (⟨"WallsOfPrisonersModel", "fail", "()V"⟩, 44) := ⟨⟨by decide +kernel, by decide +kernel⟩, List.mem_of_getElem? (i := 687) (by decide +kernel), List.mem_of_getElem? (i := 899) (by decide +kernel), List.mem_of_getElem? (i := 900) (by decide +kernel)⟩
theorem lw_p36 : lw_okq (⟨"WallsOfPrisonersModel", "either", "()I"⟩, 44) := ⟨⟨by decide +kernel, by decide +kernel⟩, List.mem_of_getElem? (i := 687) (by decide +kernel), List.mem_of_getElem? (i := 903) (by decide +kernel), List.mem_of_getElem? (i := 904) (by decide +kernel)⟩
theorem lw_p37 : lw_okq (⟨"WallsOfPrisonersModel", "both", "()I"⟩, 44) := ⟨⟨by decide +kernel, by decide +kernel⟩, List.mem_of_getElem? (i := 687) (by decide +kernel), List.mem_of_getElem? (i := 907) (by decide +kernel), List.mem_of_getElem? (i := 908) (by decide +kernel)⟩
theorem lw_p38 : lw_okq (⟨"WallsOfPrisonersModel", "not", "()I"⟩, 44) := ⟨⟨by decide +kernel, by decide +kernel⟩, List.mem_of_getElem? (i := 687) (by decide +kernel), List.mem_of_getElem? (i := 911) (by decide +kernel), List.mem_of_getElem? (i := 912) (by decide +kernel)⟩
theorem lw_p39 : lw_okq (⟨"WallsOfPrisonersModel", "textOpens", "()Z"⟩, 44) := ⟨⟨by decide +kernel, by decide +kernel⟩, List.mem_of_getElem? (i := 687) (by decide +kernel), List.mem_of_getElem? (i := 915) (by decide +kernel), List.mem_of_getElem? (i := 916) (by decide +kernel)⟩
theorem lw_p40 : lw_okq (⟨"WallsOfPrisonersModel", "added", "()I"⟩, 44) := ⟨⟨by decide +kernel, by decide +kernel⟩, List.mem_of_getElem? (i := 687) (by decide +kernel), List.mem_of_getElem? (i := 919) (by decide +kernel), List.mem_of_getElem? (i := 920) (by decide +kernel)⟩
theorem lw_p41 : lw_okq (⟨"WallsOfPrisonersModel", "term", "()I"⟩, 44) := ⟨⟨by decide +kernel, by decide +kernel⟩, List.mem_of_getElem? (i := 687) (by decide +kernel), List.mem_of_getElem? (i := 923) (by decide +kernel), List.mem_of_getElem? (i := 924) (by decide +kernel)⟩
theorem lw_p42 : lw_okq (⟨"WallsOfPrisonersModel", "atom", "()I"⟩, 44) := ⟨⟨by decide +kernel, by decide +kernel⟩, List.mem_of_getElem? (i := 687) (by decide +kernel), List.mem_of_getElem? (i := 927) (by decide +kernel), List.mem_of_getElem? (i := 928) (by decide +kernel)⟩
theorem lw_p43 : lw_okq (⟨"WallsOfPrisonersModel", "isSign", "(I)Z"⟩, 44) := ⟨⟨by decide +kernel, by decide +kernel⟩, List.mem_of_getElem? (i := 687) (by decide +kernel), List.mem_of_getElem? (i := 931) (by decide +kernel), List.mem_of_getElem? (i := 932) (by decide +kernel)⟩
theorem lw_p44 : lw_okq (⟨"WallsOfPrisonersModel", "name", "()I"⟩, 44) := ⟨⟨by decide +kernel, by decide +kernel⟩, List.mem_of_getElem? (i := 687) (by decide +kernel), List.mem_of_getElem? (i := 935) (by decide +kernel), List.mem_of_getElem? (i := 936) (by decide +kernel)⟩
theorem lw_p45 : lw_okq (⟨"WallsOfPrisonersModel", "hold", "(I)I"⟩, 44) := ⟨⟨by decide +kernel, by decide +kernel⟩, List.mem_of_getElem? (i := 687) (by decide +kernel), List.mem_of_getElem? (i := 944) (by decide +kernel), List.mem_of_getElem? (i := 945) (by decide +kernel)⟩
theorem lw_p46 : lw_okq (⟨"WallsOfPrisonersModel", "gripsOf", "(II)I"⟩, 44) := ⟨⟨by decide +kernel, by decide +kernel⟩, List.mem_of_getElem? (i := 687) (by decide +kernel), List.mem_of_getElem? (i := 948) (by decide +kernel), List.mem_of_getElem? (i := 949) (by decide +kernel)⟩
theorem lw_p47 : lw_okq (⟨"WallsOfPrisonersModel", "lays", "(III)V"⟩, 44) := ⟨⟨by decide +kernel, by decide +kernel⟩, List.mem_of_getElem? (i := 687) (by decide +kernel), List.mem_of_getElem? (i := 952) (by decide +kernel), List.mem_of_getElem? (i := 953) (by decide +kernel)⟩
def lw_privs_3 : List (MethodName × Nat) := [(⟨"WallsOfPrisonersModel", "isWord", "(IIIIIIII)Z"⟩, 44), (⟨"WallsOfPrisonersModel", "isLetter", "(II)Z"⟩, 44), (⟨"WallsOfPrisonersModel", "part", "(Z)I"⟩, 44), (⟨"WallsOfPrisonersModel", "fail", "()V"⟩, 44), (⟨"WallsOfPrisonersModel", "either", "()I"⟩, 44), (⟨"WallsOfPrisonersModel", "both", "()I"⟩, 44), (⟨"WallsOfPrisonersModel", "not", "()I"⟩, 44), (⟨"WallsOfPrisonersModel", "textOpens", "()Z"⟩, 44), (⟨"WallsOfPrisonersModel", "added", "()I"⟩, 44), (⟨"WallsOfPrisonersModel", "term", "()I"⟩, 44), (⟨"WallsOfPrisonersModel", "atom", "()I"⟩, 44), (⟨"WallsOfPrisonersModel", "isSign", "(I)Z"⟩, 44), (⟨"WallsOfPrisonersModel", "name", "()I"⟩, 44), (⟨"WallsOfPrisonersModel", "hold", "(I)I"⟩, 44), (⟨"WallsOfPrisonersModel", "gripsOf", "(II)I"⟩, 44), (⟨"WallsOfPrisonersModel", "lays", "(III)V"⟩, 44)]
theorem lw_r3 : ∀ q ∈ lw_privs_3, lw_okq q := List.forall_mem_cons.mpr ⟨lw_p32, List.forall_mem_cons.mpr ⟨lw_p33, List.forall_mem_cons.mpr ⟨lw_p34, List.forall_mem_cons.mpr ⟨lw_p35, List.forall_mem_cons.mpr ⟨lw_p36, List.forall_mem_cons.mpr ⟨lw_p37, List.forall_mem_cons.mpr ⟨lw_p38, List.forall_mem_cons.mpr ⟨lw_p39, List.forall_mem_cons.mpr ⟨lw_p40, List.forall_mem_cons.mpr ⟨lw_p41, List.forall_mem_cons.mpr ⟨lw_p42, List.forall_mem_cons.mpr ⟨lw_p43, List.forall_mem_cons.mpr ⟨lw_p44, List.forall_mem_cons.mpr ⟨lw_p45, List.forall_mem_cons.mpr ⟨lw_p46, List.forall_mem_cons.mpr ⟨lw_p47, fun _ h => absurd h List.not_mem_nil⟩⟩⟩⟩⟩⟩⟩⟩⟩⟩⟩⟩⟩⟩⟩⟩
theorem lw_p48 : lw_okq (⟨"WallsOfPrisonersModel", "areTwo", "(II)Z"⟩, 44) := ⟨⟨by decide +kernel, by decide +kernel⟩, List.mem_of_getElem? (i := 687) (by decide +kernel), List.mem_of_getElem? (i := 981) (by decide +kernel), List.mem_of_getElem? (i := 982) (by decide +kernel)⟩
theorem lw_p49 : lw_okq (⟨"WallsOfPrisonersModel", "handsOf", "(II)I"⟩, 44) := ⟨⟨by decide +kernel, by decide +kernel⟩, List.mem_of_getElem? (i := 687) (by decide +kernel), List.mem_of_getElem? (i := 989) (by decide +kernel), List.mem_of_getElem? (i := 990) (by decide +kernel)⟩
theorem lw_p50 : lw_okq (⟨"WallsOfPrisonersModel", "weakest", "()I"⟩, 44) := ⟨⟨by decide +kernel, by decide +kernel⟩, List.mem_of_getElem? (i := 687) (by decide +kernel), List.mem_of_getElem? (i := 997) (by decide +kernel), List.mem_of_getElem? (i := 998) (by decide +kernel)⟩
theorem lw_p51 : lw_okq (⟨"WallsOfPrisonersModel", "gates", "()I"⟩, 44) := ⟨⟨by decide +kernel, by decide +kernel⟩, List.mem_of_getElem? (i := 687) (by decide +kernel), List.mem_of_getElem? (i := 1001) (by decide +kernel), List.mem_of_getElem? (i := 1002) (by decide +kernel)⟩
theorem lw_p52 : lw_okq (⟨"WallsOfPrisonersModel", "firstGate", "()I"⟩, 44) := ⟨⟨by decide +kernel, by decide +kernel⟩, List.mem_of_getElem? (i := 687) (by decide +kernel), List.mem_of_getElem? (i := 1005) (by decide +kernel), List.mem_of_getElem? (i := 1006) (by decide +kernel)⟩
theorem lw_p53 : lw_okq (⟨"WallsOfPrisonersModel", "closesUp", "(I)V"⟩, 44) := ⟨⟨by decide +kernel, by decide +kernel⟩, List.mem_of_getElem? (i := 687) (by decide +kernel), List.mem_of_getElem? (i := 1013) (by decide +kernel), List.mem_of_getElem? (i := 1014) (by decide +kernel)⟩
theorem lw_p54 : lw_okq (⟨"WallsOfPrisonersModel", "stands", "(II)V"⟩, 44) := ⟨⟨by decide +kernel, by decide +kernel⟩, List.mem_of_getElem? (i := 687) (by decide +kernel), List.mem_of_getElem? (i := 1021) (by decide +kernel), List.mem_of_getElem? (i := 1022) (by decide +kernel)⟩
theorem lw_p55 : lw_okq (⟨"WallsOfPrisonersModel", "change", "(II)V"⟩, 44) := ⟨⟨by decide +kernel, by decide +kernel⟩, List.mem_of_getElem? (i := 687) (by decide +kernel), List.mem_of_getElem? (i := 1029) (by decide +kernel), List.mem_of_getElem? (i := 1030) (by decide +kernel)⟩
theorem lw_p56 : lw_okq (⟨"WallsOfPrisonersModel", "passes", "()V"⟩, 44) := ⟨⟨by decide +kernel, by decide +kernel⟩, List.mem_of_getElem? (i := 687) (by decide +kernel), List.mem_of_getElem? (i := 1037) (by decide +kernel), List.mem_of_getElem? (i := 1038) (by decide +kernel)⟩
theorem lw_p57 : lw_okq (⟨"WallsOfPrisonersModel", "laysAside", "()V"⟩, 44) := ⟨⟨by decide +kernel, by decide +kernel⟩, List.mem_of_getElem? (i := 687) (by decide +kernel), List.mem_of_getElem? (i := 1052) (by decide +kernel), List.mem_of_getElem? (i := 1053) (by decide +kernel)⟩
theorem lw_p58 : lw_okq (⟨"WallsOfPrisonersModel", "laysBack", "()V"⟩, 44) := ⟨⟨by decide +kernel, by decide +kernel⟩, List.mem_of_getElem? (i := 687) (by decide +kernel), List.mem_of_getElem? (i := 1056) (by decide +kernel), List.mem_of_getElem? (i := 1057) (by decide +kernel)⟩
theorem lw_p59 : lw_okq (⟨"WallsOfPrisonersModel", "orders", "(II)V"⟩, 44) := ⟨⟨by decide +kernel, by decide +kernel⟩, List.mem_of_getElem? (i := 687) (by decide +kernel), List.mem_of_getElem? (i := 1068) (by decide +kernel), List.mem_of_getElem? (i := 1069) (by decide +kernel)⟩
theorem lw_p60 : lw_okq (⟨"WallsOfPrisonersModel", "digitsOf", "()I"⟩, 44) := ⟨⟨by decide +kernel, by decide +kernel⟩, List.mem_of_getElem? (i := 687) (by decide +kernel), List.mem_of_getElem? (i := 1072) (by decide +kernel), List.mem_of_getElem? (i := 1073) (by decide +kernel)⟩
theorem lw_p61 : lw_okq (⟨"WallsOfPrisonersModel", "shutBy", "(I)Z"⟩, 44) := ⟨⟨by decide +kernel, by decide +kernel⟩, List.mem_of_getElem? (i := 687) (by decide +kernel), List.mem_of_getElem? (i := 1088) (by decide +kernel), List.mem_of_getElem? (i := 1089) (by decide +kernel)⟩
theorem lw_p62 : lw_okq (⟨"WallsOfPrisonersModel", "firstOther", "(I)I"⟩, 44) := ⟨⟨by decide +kernel, by decide +kernel⟩, List.mem_of_getElem? (i := 687) (by decide +kernel), List.mem_of_getElem? (i := 1108) (by decide +kernel), List.mem_of_getElem? (i := 1109) (by decide +kernel)⟩
theorem lw_p63 : lw_okq (⟨"WallsOfPrisonersModel", "weakestDrawn", "(II)I"⟩, 44) := ⟨⟨by decide +kernel, by decide +kernel⟩, List.mem_of_getElem? (i := 687) (by decide +kernel), List.mem_of_getElem? (i := 1125) (by decide +kernel), List.mem_of_getElem? (i := 1126) (by decide +kernel)⟩
def lw_privs_4 : List (MethodName × Nat) := [(⟨"WallsOfPrisonersModel", "areTwo", "(II)Z"⟩, 44), (⟨"WallsOfPrisonersModel", "handsOf", "(II)I"⟩, 44), (⟨"WallsOfPrisonersModel", "weakest", "()I"⟩, 44), (⟨"WallsOfPrisonersModel", "gates", "()I"⟩, 44), (⟨"WallsOfPrisonersModel", "firstGate", "()I"⟩, 44), (⟨"WallsOfPrisonersModel", "closesUp", "(I)V"⟩, 44), (⟨"WallsOfPrisonersModel", "stands", "(II)V"⟩, 44), (⟨"WallsOfPrisonersModel", "change", "(II)V"⟩, 44), (⟨"WallsOfPrisonersModel", "passes", "()V"⟩, 44), (⟨"WallsOfPrisonersModel", "laysAside", "()V"⟩, 44), (⟨"WallsOfPrisonersModel", "laysBack", "()V"⟩, 44), (⟨"WallsOfPrisonersModel", "orders", "(II)V"⟩, 44), (⟨"WallsOfPrisonersModel", "digitsOf", "()I"⟩, 44), (⟨"WallsOfPrisonersModel", "shutBy", "(I)Z"⟩, 44), (⟨"WallsOfPrisonersModel", "firstOther", "(I)I"⟩, 44), (⟨"WallsOfPrisonersModel", "weakestDrawn", "(II)I"⟩, 44)]
theorem lw_r4 : ∀ q ∈ lw_privs_4, lw_okq q := List.forall_mem_cons.mpr ⟨lw_p48, List.forall_mem_cons.mpr ⟨lw_p49, List.forall_mem_cons.mpr ⟨lw_p50, List.forall_mem_cons.mpr ⟨lw_p51, List.forall_mem_cons.mpr ⟨lw_p52, List.forall_mem_cons.mpr ⟨lw_p53, List.forall_mem_cons.mpr ⟨lw_p54, List.forall_mem_cons.mpr ⟨lw_p55, List.forall_mem_cons.mpr ⟨lw_p56, List.forall_mem_cons.mpr ⟨lw_p57, List.forall_mem_cons.mpr ⟨lw_p58, List.forall_mem_cons.mpr ⟨lw_p59, List.forall_mem_cons.mpr ⟨lw_p60, List.forall_mem_cons.mpr ⟨lw_p61, List.forall_mem_cons.mpr ⟨lw_p62, List.forall_mem_cons.mpr ⟨lw_p63, fun _ h => absurd h List.not_mem_nil⟩⟩⟩⟩⟩⟩⟩⟩⟩⟩⟩⟩⟩⟩⟩⟩
def lw_privs : List (MethodName × Nat) := lw_privs_1 ++ (lw_privs_2 ++ (lw_privs_3 ++ (lw_privs_4)))
def lw_tbl : List Cond := k2_sels lw_privs ++ tables_1
theorem lw_privs_ok : ∀ q ∈ lw_privs, lw_okq q := by
  show ∀ q ∈ lw_privs_1 ++ (lw_privs_2 ++ (lw_privs_3 ++ (lw_privs_4))), lw_okq q
  exact List.forall_mem_append.mpr ⟨lw_r1, List.forall_mem_append.mpr ⟨lw_r2, List.forall_mem_append.mpr ⟨lw_r3, lw_r4⟩⟩⟩
-- ===== end of PART A; then your names; then what follows =====
end
section
/-! ===== BEGIN words of one list among another's, by their places ===== -/
theorem goodIn_r {big : List Cond} (ws : List Cond) (ps : List Nat) (hp : ws = ps.filterMap (fun i => big[i]?)) (h : ws.all goodWord = true) : GoodIn big ws := by
  intro w hw
  have h1 := List.all_eq_true.mp h w hw
  rw [hp] at hw
  obtain ⟨i, -, hi⟩ := List.mem_filterMap.mp hw
  have hm : w ∈ big := by first | exact List.mem_of_getElem? hi | exact List.getElem?_mem hi
  exact ⟨hm, good_of_word h1⟩
theorem goodIn_app {big a b : List Cond} (ha : GoodIn big a) (hb : GoodIn big b) : GoodIn big (a ++ b) := fun w h => (List.mem_append.mp h).elim (ha w) (hb w)
theorem goodIn_ca {big a b : List Cond} {c : Cond} (ha : GoodIn big (c :: a)) (hb : GoodIn big b) : GoodIn big (c :: (a ++ b)) := fun w h => (List.mem_cons.mp h).elim (fun e => ha w (List.mem_cons.mpr (Or.inl e))) (fun h => (List.mem_append.mp h).elim (fun h => ha w (List.mem_cons.mpr (Or.inr h))) (hb w))
theorem goodIn_sub {big ws : List Cond} (hm : ∀ w ∈ ws, w ∈ big) (h : ws.all goodWord = true) : GoodIn big ws := fun w hw => ⟨hm w hw, good_of_word (List.all_eq_true.mp h w hw)⟩
/-! ===== END ===== -/

/-! ===== BEGIN printed: names, fields, word lists, decode rows ===== -/
def RX0 : String := "WallsOfPrisoners$Marsh"
def TX0 : u_T := fun k => match k with
  | 0 => ("WallsOfPrisoners$Marsh", "texts", "LWallsOfPrisoners$Texts;", true)
  | 1 => ("WallsOfPrisoners$Marsh", "kind", "[I", true)
  | 2 => ("WallsOfPrisoners$Marsh", "number", "[I", true)
  | 3 => ("WallsOfPrisoners$Marsh", "strength", "[I", true)
  | 4 => ("WallsOfPrisoners$Marsh", "ring", "[I", true)
  | 5 => ("WallsOfPrisoners$Marsh", "men", "I", false)
  | 6 => ("WallsOfPrisoners$Marsh", "standing", "I", false)
  | 7 => ("WallsOfPrisoners$Marsh", "hour", "I", false)
  | 8 => ("WallsOfPrisoners$Marsh", "cold", "I", false)
  | _ => ("WallsOfPrisoners$Marsh", "rule", "I", false)
def tyX0 : Nat → FieldType := fun k => match k with
  | 0 => .object "WallsOfPrisoners$Texts"
  | 1 => .array .int
  | 2 => .array .int
  | 3 => .array .int
  | 4 => .array .int
  | 5 => .int
  | 6 => .int
  | 7 => .int
  | 8 => .int
  | _ => .int
abbrev wsX00 : List Cond := u_ws RX0 TX0 10
theorem nmX0 : ∀ a, a < 10 → ∀ b, b < 10 → a ≠ b → (TX0 a).2.1 ≠ (TX0 b).2.1 := by decide +kernel
theorem tyX0_ok : ∀ k, k < 10 → parseFieldDescriptor (TX0 k).2.2.1 = some (tyX0 k) := by decide +kernel
abbrev cX0_init : ByteArray := prog_2_method_1_code
def yX0_init : MethodName := ⟨RX0, "<init>", "(LWallsOfPrisoners$Texts;)V"⟩
abbrev cX0_takeFrom : ByteArray := prog_2_method_2_code
def yX0_takeFrom : MethodName := ⟨RX0, "takeFrom", "(LWallsOfPrisoners$Marsh;)V"⟩
abbrev cX0_has : ByteArray := prog_2_method_3_code
def yX0_has : MethodName := ⟨RX0, "has", "(I)Z"⟩
abbrev cX0_join : ByteArray := prog_2_method_4_code
def yX0_join : MethodName := ⟨RX0, "join", "(III)I"⟩
abbrev cX0_trait : ByteArray := prog_2_method_5_code
def yX0_trait : MethodName := ⟨RX0, "trait", "(II)I"⟩
abbrev cX0_suppose : ByteArray := prog_2_method_6_code
def yX0_suppose : MethodName := ⟨RX0, "suppose", "(III)V"⟩
abbrev cX0_who : ByteArray := prog_2_method_7_code
def yX0_who : MethodName := ⟨RX0, "who", "(I)I"⟩
abbrev cX0_placeOf : ByteArray := prog_2_method_8_code
def yX0_placeOf : MethodName := ⟨RX0, "placeOf", "(I)I"⟩
abbrev cX0_placeBehind : ByteArray := prog_2_method_9_code
def yX0_placeBehind : MethodName := ⟨RX0, "placeBehind", "(I)I"⟩
abbrev cX0_leave : ByteArray := prog_2_method_10_code
def yX0_leave : MethodName := ⟨RX0, "leave", "(I)V"⟩
abbrev cX0_enter : ByteArray := prog_2_method_11_code
def yX0_enter : MethodName := ⟨RX0, "enter", "(II)V"⟩
abbrev cX0_exchange : ByteArray := prog_2_method_12_code
def yX0_exchange : MethodName := ⟨RX0, "exchange", "(II)V"⟩
abbrev cX0_passHour : ByteArray := prog_2_method_13_code
def yX0_passHour : MethodName := ⟨RX0, "passHour", "()V"⟩
abbrev cX0_holds : ByteArray := prog_2_method_14_code
def yX0_holds : MethodName := ⟨RX0, "holds", "()I"⟩
abbrev cX0_holdFrom : ByteArray := prog_2_method_15_code
def yX0_holdFrom : MethodName := ⟨RX0, "holdFrom", "(I)I"⟩
abbrev cX0_weakest : ByteArray := prog_2_method_16_code
def yX0_weakest : MethodName := ⟨RX0, "weakest", "()I"⟩
abbrev cX0_gates : ByteArray := prog_2_method_17_code
def yX0_gates : MethodName := ⟨RX0, "gates", "()I"⟩
abbrev cX0_firstGate : ByteArray := prog_2_method_18_code
def yX0_firstGate : MethodName := ⟨RX0, "firstGate", "()I"⟩
abbrev cX0_firstUnlike : ByteArray := prog_2_method_19_code
def yX0_firstUnlike : MethodName := ⟨RX0, "firstUnlike", "(LWallsOfPrisoners$Sheet;)I"⟩
abbrev cX0_gripOf : ByteArray := prog_2_method_20_code
def yX0_gripOf : MethodName := ⟨RX0, "gripOf", "(II)I"⟩
abbrev cX0_asBrother : ByteArray := prog_2_method_21_code
def yX0_asBrother : MethodName := ⟨RX0, "asBrother", "(II)I"⟩
abbrev cX0_handedOn : ByteArray := prog_2_method_22_code
def yX0_handedOn : MethodName := ⟨RX0, "handedOn", "(II)I"⟩
abbrev cX0_spentBy : ByteArray := prog_2_method_23_code
def yX0_spentBy : MethodName := ⟨RX0, "spentBy", "(I)I"⟩
abbrev cX0_named : ByteArray := prog_2_method_24_code
def yX0_named : MethodName := ⟨RX0, "named", "(III)I"⟩
def RX1 : String := "WallsOfPrisoners$Orders"
def TX1 : u_T := fun k => match k with
  | 0 => ("WallsOfPrisoners$Orders", "hardness", "[I", true)
  | 1 => ("WallsOfPrisoners$Orders", "ring", "[I", true)
  | 2 => ("WallsOfPrisoners$Orders", "atFirst", "[I", true)
  | 3 => ("WallsOfPrisoners$Orders", "best", "[I", true)
  | 4 => ("WallsOfPrisoners$Orders", "standing", "I", false)
  | _ => ("WallsOfPrisoners$Orders", "bestHard", "I", false)
def tyX1 : Nat → FieldType := fun k => match k with
  | 0 => .array .int
  | 1 => .array .int
  | 2 => .array .int
  | 3 => .array .int
  | 4 => .int
  | _ => .int
abbrev wsX10 : List Cond := u_ws RX1 TX1 6
theorem nmX1 : ∀ a, a < 6 → ∀ b, b < 6 → a ≠ b → (TX1 a).2.1 ≠ (TX1 b).2.1 := by decide +kernel
theorem tyX1_ok : ∀ k, k < 6 → parseFieldDescriptor (TX1 k).2.2.1 = some (tyX1 k) := by decide +kernel
abbrev cX1_init : ByteArray := prog_3_method_1_code
def yX1_init : MethodName := ⟨RX1, "<init>", "()V"⟩
abbrev cX1_look : ByteArray := prog_3_method_2_code
def yX1_look : MethodName := ⟨RX1, "look", "(LWallsOfPrisoners$Marsh;)V"⟩
abbrev cX1_between : ByteArray := prog_3_method_3_code
def yX1_between : MethodName := ⟨RX1, "between", "(II)I"⟩
abbrev cX1_weakestNow : ByteArray := prog_3_method_4_code
def yX1_weakestNow : MethodName := ⟨RX1, "weakestNow", "()I"⟩
abbrev cX1_change : ByteArray := prog_3_method_5_code
def yX1_change : MethodName := ⟨RX1, "change", "(II)V"⟩
abbrev cX1_seekBest : ByteArray := prog_3_method_6_code
def yX1_seekBest : MethodName := ⟨RX1, "seekBest", "()V"⟩
abbrev cX1_seekFrom : ByteArray := prog_3_method_7_code
def yX1_seekFrom : MethodName := ⟨RX1, "seekFrom", "(III)V"⟩
abbrev cX1_bestDigits : ByteArray := prog_3_method_8_code
def yX1_bestDigits : MethodName := ⟨RX1, "bestDigits", "()I"⟩
abbrev cX1_fewestChanges : ByteArray := prog_3_method_9_code
def yX1_fewestChanges : MethodName := ⟨RX1, "fewestChanges", "()I"⟩
abbrev cX1_closesBy : ByteArray := prog_3_method_10_code
def yX1_closesBy : MethodName := ⟨RX1, "closesBy", "(I)Z"⟩
abbrev cX1_weakestDrawn : ByteArray := prog_3_method_11_code
def yX1_weakestDrawn : MethodName := ⟨RX1, "weakestDrawn", "(II)I"⟩
def RX2 : String := "WallsOfPrisoners$Reader"
def TX2 : u_T := fun k => match k with
  | 0 => ("WallsOfPrisoners$Reader", "texts", "LWallsOfPrisoners$Texts;", true)
  | 1 => ("WallsOfPrisoners$Reader", "tape", "[I", true)
  | 2 => ("WallsOfPrisoners$Reader", "size", "I", false)
  | 3 => ("WallsOfPrisoners$Reader", "at", "I", false)
  | 4 => ("WallsOfPrisoners$Reader", "start", "I", false)
  | 5 => ("WallsOfPrisoners$Reader", "token", "I", false)
  | _ => ("WallsOfPrisoners$Reader", "worth", "I", false)
def tyX2 : Nat → FieldType := fun k => match k with
  | 0 => .object "WallsOfPrisoners$Texts"
  | 1 => .array .int
  | 2 => .int
  | 3 => .int
  | 4 => .int
  | 5 => .int
  | _ => .int
abbrev wsX20 : List Cond := u_ws RX2 TX2 7
theorem nmX2 : ∀ a, a < 7 → ∀ b, b < 7 → a ≠ b → (TX2 a).2.1 ≠ (TX2 b).2.1 := by decide +kernel
theorem tyX2_ok : ∀ k, k < 7 → parseFieldDescriptor (TX2 k).2.2.1 = some (tyX2 k) := by decide +kernel
abbrev cX2_init : ByteArray := prog_4_method_1_code
def yX2_init : MethodName := ⟨RX2, "<init>", "(LWallsOfPrisoners$Texts;)V"⟩
abbrev cX2_add : ByteArray := prog_4_method_2_code
def yX2_add : MethodName := ⟨RX2, "add", "(I)Z"⟩
abbrev cX2_read : ByteArray := prog_4_method_3_code
def yX2_read : MethodName := ⟨RX2, "read", "()I"⟩
abbrev cX2_readPart : ByteArray := prog_4_method_4_code
def yX2_readPart : MethodName := ⟨RX2, "readPart", "(I)Z"⟩
abbrev cX2_readEither : ByteArray := prog_4_method_5_code
def yX2_readEither : MethodName := ⟨RX2, "readEither", "(I)Z"⟩
abbrev cX2_readBoth : ByteArray := prog_4_method_6_code
def yX2_readBoth : MethodName := ⟨RX2, "readBoth", "(I)Z"⟩
abbrev cX2_readDenial : ByteArray := prog_4_method_7_code
def yX2_readDenial : MethodName := ⟨RX2, "readDenial", "(I)Z"⟩
abbrev cX2_readComparison : ByteArray := prog_4_method_8_code
def yX2_readComparison : MethodName := ⟨RX2, "readComparison", "(I)Z"⟩
abbrev cX2_readSum : ByteArray := prog_4_method_9_code
def yX2_readSum : MethodName := ⟨RX2, "readSum", "(I)Z"⟩
abbrev cX2_readTerm : ByteArray := prog_4_method_10_code
def yX2_readTerm : MethodName := ⟨RX2, "readTerm", "(I)Z"⟩
abbrev cX2_readOne : ByteArray := prog_4_method_11_code
def yX2_readOne : MethodName := ⟨RX2, "readOne", "(I)Z"⟩
abbrev cX2_readNegation : ByteArray := prog_4_method_12_code
def yX2_readNegation : MethodName := ⟨RX2, "readNegation", "(I)Z"⟩
abbrev cX2_readBrackets : ByteArray := prog_4_method_13_code
def yX2_readBrackets : MethodName := ⟨RX2, "readBrackets", "(I)Z"⟩
abbrev cX2_advance : ByteArray := prog_4_method_14_code
def yX2_advance : MethodName := ⟨RX2, "advance", "()V"⟩
abbrev cX2_letterAt : ByteArray := prog_4_method_15_code
def yX2_letterAt : MethodName := ⟨RX2, "letterAt", "(I)I"⟩
abbrev cX2_readDigits : ByteArray := prog_4_method_16_code
def yX2_readDigits : MethodName := ⟨RX2, "readDigits", "()V"⟩
abbrev cX2_readWord : ByteArray := prog_4_method_17_code
def yX2_readWord : MethodName := ⟨RX2, "readWord", "()V"⟩
abbrev cX2_isHere : ByteArray := prog_4_method_18_code
def yX2_isHere : MethodName := ⟨RX2, "isHere", "(Ljava/lang/String;)Z"⟩
abbrev cX2_isDigit : ByteArray := prog_4_method_19_code
def yX2_isDigit : MethodName := ⟨RX2, "isDigit", "(I)Z"⟩
abbrev cX2_isSmall : ByteArray := prog_4_method_20_code
def yX2_isSmall : MethodName := ⟨RX2, "isSmall", "(I)Z"⟩
abbrev cX2_isSign : ByteArray := prog_4_method_21_code
def yX2_isSign : MethodName := ⟨RX2, "isSign", "(I)Z"⟩
abbrev cX2_word : ByteArray := prog_4_method_22_code
def yX2_word : MethodName := ⟨RX2, "word", "(I)Ljava/lang/String;"⟩
def RX3 : String := "WallsOfPrisoners$Sheet"
def TX3 : u_T := fun k => match k with
  | 0 => ("WallsOfPrisoners$Sheet", "row", "[I", true)
  | 1 => ("WallsOfPrisoners$Sheet", "sort", "I", false)
  | _ => ("WallsOfPrisoners$Sheet", "size", "I", false)
def tyX3 : Nat → FieldType := fun k => match k with
  | 0 => .array .int
  | 1 => .int
  | _ => .int
abbrev wsX30 : List Cond := u_ws RX3 TX3 3
theorem nmX3 : ∀ a, a < 3 → ∀ b, b < 3 → a ≠ b → (TX3 a).2.1 ≠ (TX3 b).2.1 := by decide +kernel
theorem tyX3_ok : ∀ k, k < 3 → parseFieldDescriptor (TX3 k).2.2.1 = some (tyX3 k) := by decide +kernel
abbrev cX3_init : ByteArray := prog_5_method_1_code
def yX3_init : MethodName := ⟨RX3, "<init>", "()V"⟩
abbrev cX3_become : ByteArray := prog_5_method_2_code
def yX3_become : MethodName := ⟨RX3, "become", "(II)V"⟩
abbrev cX3_has : ByteArray := prog_5_method_3_code
def yX3_has : MethodName := ⟨RX3, "has", "(I)Z"⟩
abbrev cX3_hasRun : ByteArray := prog_5_method_4_code
def yX3_hasRun : MethodName := ⟨RX3, "hasRun", "(II)Z"⟩
abbrev cX3_put : ByteArray := prog_5_method_5_code
def yX3_put : MethodName := ⟨RX3, "put", "(II)V"⟩
def RX4 : String := "WallsOfPrisoners$Texts"
def TX4 : u_T := fun k => match k with
  | 0 => ("WallsOfPrisoners$Texts", "codes", "[I", true)
  | 1 => ("WallsOfPrisoners$Texts", "ends", "[I", true)
  | 2 => ("WallsOfPrisoners$Texts", "stack", "[I", true)
  | 3 => ("WallsOfPrisoners$Texts", "many", "I", false)
  | _ => ("WallsOfPrisoners$Texts", "written", "I", false)
def tyX4 : Nat → FieldType := fun k => match k with
  | 0 => .array .int
  | 1 => .array .int
  | 2 => .array .int
  | 3 => .int
  | _ => .int
abbrev wsX40 : List Cond := u_ws RX4 TX4 5
theorem nmX4 : ∀ a, a < 5 → ∀ b, b < 5 → a ≠ b → (TX4 a).2.1 ≠ (TX4 b).2.1 := by decide +kernel
theorem tyX4_ok : ∀ k, k < 5 → parseFieldDescriptor (TX4 k).2.2.1 = some (tyX4 k) := by decide +kernel
abbrev cX4_init : ByteArray := prog_6_method_1_code
def yX4_init : MethodName := ⟨RX4, "<init>", "()V"⟩
abbrev cX4_begin : ByteArray := prog_6_method_2_code
def yX4_begin : MethodName := ⟨RX4, "begin", "()V"⟩
abbrev cX4_put : ByteArray := prog_6_method_3_code
def yX4_put : MethodName := ⟨RX4, "put", "(I)V"⟩
abbrev cX4_endPart : ByteArray := prog_6_method_4_code
def yX4_endPart : MethodName := ⟨RX4, "endPart", "(I)V"⟩
abbrev cX4_value : ByteArray := prog_6_method_5_code
def yX4_value : MethodName := ⟨RX4, "value", "(ILWallsOfPrisoners$Marsh;II)I"⟩
abbrev cX4_done : ByteArray := prog_6_method_6_code
def yX4_done : MethodName := ⟨RX4, "done", "(III)I"⟩
def RX5 : String := "WallsOfPrisoners"
def TX5 : u_T := fun k => match k with
  | 0 => ("WallsOfPrisoners", "texts", "LWallsOfPrisoners$Texts;", true)
  | 1 => ("WallsOfPrisoners", "reader", "LWallsOfPrisoners$Reader;", true)
  | 2 => ("WallsOfPrisoners", "marsh", "LWallsOfPrisoners$Marsh;", true)
  | 3 => ("WallsOfPrisoners", "thought", "LWallsOfPrisoners$Marsh;", true)
  | 4 => ("WallsOfPrisoners", "kept", "LWallsOfPrisoners$Marsh;", true)
  | 5 => ("WallsOfPrisoners", "orders", "LWallsOfPrisoners$Orders;", true)
  | 6 => ("WallsOfPrisoners", "sheets", "[LWallsOfPrisoners$Sheet;", true)
  | _ => ("WallsOfPrisoners", "isKept", "Z", false)
def tyX5 : Nat → FieldType := fun k => match k with
  | 0 => .object "WallsOfPrisoners$Texts"
  | 1 => .object "WallsOfPrisoners$Reader"
  | 2 => .object "WallsOfPrisoners$Marsh"
  | 3 => .object "WallsOfPrisoners$Marsh"
  | 4 => .object "WallsOfPrisoners$Marsh"
  | 5 => .object "WallsOfPrisoners$Orders"
  | 6 => .array (.object "WallsOfPrisoners$Sheet")
  | _ => .boolean
abbrev wsX50 : List Cond := u_ws RX5 TX5 8
theorem nmX5 : ∀ a, a < 8 → ∀ b, b < 8 → a ≠ b → (TX5 a).2.1 ≠ (TX5 b).2.1 := by decide +kernel
theorem tyX5_ok : ∀ k, k < 8 → parseFieldDescriptor (TX5 k).2.2.1 = some (tyX5 k) := by decide +kernel
abbrev cX5_init : ByteArray := prog_1_method_1_code
def yX5_init : MethodName := ⟨RX5, "<init>", "()V"⟩
abbrev cX5_set : ByteArray := prog_1_method_2_code
def yX5_set : MethodName := ⟨RX5, "set", "(III)I"⟩
abbrev cX5_man : ByteArray := prog_1_method_3_code
def yX5_man : MethodName := ⟨RX5, "man", "(III)I"⟩
abbrev cX5_told : ByteArray := prog_1_method_4_code
def yX5_told : MethodName := ⟨RX5, "told", "(II)I"⟩
abbrev cX5_grips : ByteArray := prog_1_method_5_code
def yX5_grips : MethodName := ⟨RX5, "grips", "(II)I"⟩
abbrev cX5_hands : ByteArray := prog_1_method_6_code
def yX5_hands : MethodName := ⟨RX5, "hands", "(II)I"⟩
abbrev cX5_feed : ByteArray := prog_1_method_7_code
def yX5_feed : MethodName := ⟨RX5, "feed", "(I)I"⟩
abbrev cX5_text : ByteArray := prog_1_method_8_code
def yX5_text : MethodName := ⟨RX5, "text", "()I"⟩
abbrev cX5_force : ByteArray := prog_1_method_9_code
def yX5_force : MethodName := ⟨RX5, "force", "(I)I"⟩
abbrev cX5_out : ByteArray := prog_1_method_10_code
def yX5_out : MethodName := ⟨RX5, "out", "(I)I"⟩
abbrev cX5_into : ByteArray := prog_1_method_11_code
def yX5_into : MethodName := ⟨RX5, "into", "(II)I"⟩
abbrev cX5_swap : ByteArray := prog_1_method_12_code
def yX5_swap : MethodName := ⟨RX5, "swap", "(II)I"⟩
abbrev cX5_hour : ByteArray := prog_1_method_13_code
def yX5_hour : MethodName := ⟨RX5, "hour", "()I"⟩
abbrev cX5_wall : ByteArray := prog_1_method_14_code
def yX5_wall : MethodName := ⟨RX5, "wall", "(I)I"⟩
abbrev cX5_sneeze : ByteArray := prog_1_method_15_code
def yX5_sneeze : MethodName := ⟨RX5, "sneeze", "(III)I"⟩
abbrev cX5_run : ByteArray := prog_1_method_16_code
def yX5_run : MethodName := ⟨RX5, "run", "(II)I"⟩
abbrev cX5_opens : ByteArray := prog_1_method_17_code
def yX5_opens : MethodName := ⟨RX5, "opens", "()I"⟩
abbrev cX5_order : ByteArray := prog_1_method_18_code
def yX5_order : MethodName := ⟨RX5, "order", "(I)I"⟩
abbrev cX5_let : ByteArray := prog_1_method_19_code
def yX5_let : MethodName := ⟨RX5, "let", "(I)I"⟩
abbrev cX5_letsIn : ByteArray := prog_1_method_20_code
def yX5_letsIn : MethodName := ⟨RX5, "letsIn", "(II)I"⟩
abbrev cX5_swaps : ByteArray := prog_1_method_21_code
def yX5_swaps : MethodName := ⟨RX5, "swaps", "()I"⟩
abbrev cX5_mean : ByteArray := prog_1_method_22_code
def yX5_mean : MethodName := ⟨RX5, "mean", "(I)J"⟩
abbrev cX5_tells : ByteArray := prog_1_method_23_code
def yX5_tells : MethodName := ⟨RX5, "tells", "(III)I"⟩
abbrev cX5_film : ByteArray := prog_1_method_24_code
def yX5_film : MethodName := ⟨RX5, "film", "(I)I"⟩
abbrev cX5_drawn : ByteArray := prog_1_method_25_code
def yX5_drawn : MethodName := ⟨RX5, "drawn", "(II)I"⟩
abbrev cX5_chance : ByteArray := prog_1_method_26_code
def yX5_chance : MethodName := ⟨RX5, "chance", "(IIII)J"⟩
abbrev cX5_image : ByteArray := prog_1_method_27_code
def yX5_image : MethodName := ⟨RX5, "image", "()I"⟩
abbrev cX5_back : ByteArray := prog_1_method_28_code
def yX5_back : MethodName := ⟨RX5, "back", "()I"⟩
abbrev cX5_count : ByteArray := prog_1_method_29_code
def yX5_count : MethodName := ⟨RX5, "count", "(I)I"⟩
abbrev cX5_sheet : ByteArray := prog_1_method_30_code
def yX5_sheet : MethodName := ⟨RX5, "sheet", "(III)I"⟩
abbrev cX5_cell : ByteArray := prog_1_method_31_code
def yX5_cell : MethodName := ⟨RX5, "cell", "(III)I"⟩
abbrev cX5_copy : ByteArray := prog_1_method_32_code
def yX5_copy : MethodName := ⟨RX5, "copy", "(IIIII)I"⟩
abbrev cX5_chain : ByteArray := prog_1_method_33_code
def yX5_chain : MethodName := ⟨RX5, "chain", "(IIII)I"⟩
abbrev cX5_taken : ByteArray := prog_1_method_34_code
def yX5_taken : MethodName := ⟨RX5, "taken", "(II)I"⟩
abbrev cX5_isSheet : ByteArray := prog_1_method_35_code
def yX5_isSheet : MethodName := ⟨RX5, "isSheet", "(I)Z"⟩
abbrev cX5_greatest : ByteArray := prog_1_method_36_code
def yX5_greatest : MethodName := ⟨RX5, "greatest", "(I)I"⟩
abbrev cX5_bounded : ByteArray := prog_1_method_37_code
def yX5_bounded : MethodName := ⟨RX5, "bounded", "(I)I"⟩
abbrev cX5_isUnder : ByteArray := prog_1_method_38_code
def yX5_isUnder : MethodName := ⟨RX5, "isUnder", "(II)Z"⟩
abbrev cX5_lowestTerm : ByteArray := prog_1_method_39_code
def yX5_lowestTerm : MethodName := ⟨RX5, "lowestTerm", "(III)J"⟩
abbrev cX5_readBack : ByteArray := prog_1_method_40_code
def yX5_readBack : MethodName := ⟨RX5, "readBack", "(LWallsOfPrisoners$Sheet;II)I"⟩
abbrev cX5_traitReadBack : ByteArray := prog_1_method_41_code
def yX5_traitReadBack : MethodName := ⟨RX5, "traitReadBack", "(I)I"⟩
def RX6 : String := "WallsOfPrisonersModel"
def TX6 : u_T := fun k => match k with
  | 0 => ("WallsOfPrisonersModel", "thrown", "I", false)
  | 1 => ("WallsOfPrisonersModel", "texts", "[I", true)
  | 2 => ("WallsOfPrisonersModel", "textSize", "[I", true)
  | 3 => ("WallsOfPrisonersModel", "textCount", "I", false)
  | 4 => ("WallsOfPrisonersModel", "rule", "I", false)
  | 5 => ("WallsOfPrisonersModel", "tape", "[I", true)
  | 6 => ("WallsOfPrisonersModel", "taped", "I", false)
  | 7 => ("WallsOfPrisonersModel", "hourNow", "I", false)
  | 8 => ("WallsOfPrisonersModel", "cold", "I", false)
  | 9 => ("WallsOfPrisonersModel", "rows", "[I", true)
  | 10 => ("WallsOfPrisonersModel", "men", "I", false)
  | 11 => ("WallsOfPrisonersModel", "ring", "[I", true)
  | 12 => ("WallsOfPrisonersModel", "size", "I", false)
  | 13 => ("WallsOfPrisonersModel", "ofStrength", "I", false)
  | 14 => ("WallsOfPrisonersModel", "ofNext", "I", false)
  | 15 => ("WallsOfPrisonersModel", "ofNumber", "I", false)
  | 16 => ("WallsOfPrisonersModel", "ofHour", "I", false)
  | 17 => ("WallsOfPrisonersModel", "ofCold", "I", false)
  | 18 => ("WallsOfPrisonersModel", "ofMany", "I", false)
  | 19 => ("WallsOfPrisonersModel", "from", "I", false)
  | 20 => ("WallsOfPrisonersModel", "textEnd", "I", false)
  | 21 => ("WallsOfPrisonersModel", "here", "I", false)
  | 22 => ("WallsOfPrisonersModel", "token", "I", false)
  | 23 => ("WallsOfPrisonersModel", "tokenAt", "I", false)
  | 24 => ("WallsOfPrisonersModel", "tokenWorth", "J", false)
  | 25 => ("WallsOfPrisonersModel", "open", "I", false)
  | 26 => ("WallsOfPrisonersModel", "bad", "Z", false)
  | 27 => ("WallsOfPrisonersModel", "fault", "I", false)
  | 28 => ("WallsOfPrisonersModel", "spent", "[I", true)
  | 29 => ("WallsOfPrisonersModel", "was", "[I", true)
  | 30 => ("WallsOfPrisonersModel", "ringWas", "[I", true)
  | 31 => ("WallsOfPrisonersModel", "bestRow", "I", false)
  | 32 => ("WallsOfPrisonersModel", "bestHard", "I", false)
  | 33 => ("WallsOfPrisonersModel", "rowsKept", "[I", true)
  | 34 => ("WallsOfPrisonersModel", "ringKept", "[I", true)
  | 35 => ("WallsOfPrisonersModel", "menKept", "I", false)
  | 36 => ("WallsOfPrisonersModel", "sizeKept", "I", false)
  | 37 => ("WallsOfPrisonersModel", "hourKept", "I", false)
  | 38 => ("WallsOfPrisonersModel", "coldKept", "I", false)
  | 39 => ("WallsOfPrisonersModel", "ruleKept", "I", false)
  | 40 => ("WallsOfPrisonersModel", "isThere", "[Z", true)
  | 41 => ("WallsOfPrisonersModel", "sorts", "[I", true)
  | 42 => ("WallsOfPrisonersModel", "sheetSize", "[I", true)
  | _ => ("WallsOfPrisonersModel", "items", "[I", true)
def tyX6 : Nat → FieldType := fun k => match k with
  | 0 => .int
  | 1 => .array .int
  | 2 => .array .int
  | 3 => .int
  | 4 => .int
  | 5 => .array .int
  | 6 => .int
  | 7 => .int
  | 8 => .int
  | 9 => .array .int
  | 10 => .int
  | 11 => .array .int
  | 12 => .int
  | 13 => .int
  | 14 => .int
  | 15 => .int
  | 16 => .int
  | 17 => .int
  | 18 => .int
  | 19 => .int
  | 20 => .int
  | 21 => .int
  | 22 => .int
  | 23 => .int
  | 24 => .long
  | 25 => .int
  | 26 => .boolean
  | 27 => .int
  | 28 => .array .int
  | 29 => .array .int
  | 30 => .array .int
  | 31 => .int
  | 32 => .int
  | 33 => .array .int
  | 34 => .array .int
  | 35 => .int
  | 36 => .int
  | 37 => .int
  | 38 => .int
  | 39 => .int
  | 40 => .array .boolean
  | 41 => .array .int
  | 42 => .array .int
  | _ => .array .int
abbrev wsX60 : List Cond := u_ws RX6 TX6 44
theorem nmX6 : ∀ a, a < 44 → ∀ b, b < 44 → a ≠ b → (TX6 a).2.1 ≠ (TX6 b).2.1 := by decide +kernel
theorem tyX6_ok : ∀ k, k < 44 → parseFieldDescriptor (TX6 k).2.2.1 = some (tyX6 k) := by decide +kernel
abbrev cX6_in : ByteArray := prog_8_method_2_code
def yX6_in : MethodName := ⟨RX6, "in", "(JJJ)Z"⟩
abbrev cX6_within : ByteArray := prog_8_method_3_code
def yX6_within : MethodName := ⟨RX6, "within", "(III)I"⟩
abbrev cX6_init : ByteArray := prog_8_method_4_code
def yX6_init : MethodName := ⟨RX6, "<init>", "()V"⟩
abbrev cX6_spell : ByteArray := prog_8_method_5_code
def yX6_spell : MethodName := ⟨RX6, "spell", "(IIIIIIIII)V"⟩
abbrev cX6_isOne : ByteArray := prog_8_method_6_code
def yX6_isOne : MethodName := ⟨RX6, "isOne", "(I)Z"⟩
abbrev cX6_areTwo : ByteArray := prog_8_method_7_code
def yX6_areTwo : MethodName := ⟨RX6, "areTwo", "(II)Z"⟩
abbrev cX6_isPlace : ByteArray := prog_8_method_8_code
def yX6_isPlace : MethodName := ⟨RX6, "isPlace", "(I)Z"⟩
abbrev cX6_isOf : ByteArray := prog_8_method_9_code
def yX6_isOf : MethodName := ⟨RX6, "isOf", "(II)Z"⟩
abbrev cX6_mostOf : ByteArray := prog_8_method_10_code
def yX6_mostOf : MethodName := ⟨RX6, "mostOf", "(I)I"⟩
abbrev cX6_set : ByteArray := prog_8_method_11_code
def yX6_set : MethodName := ⟨RX6, "set", "(III)I"⟩
abbrev cX6_lays : ByteArray := prog_8_method_12_code
def yX6_lays : MethodName := ⟨RX6, "lays", "(III)V"⟩
abbrev cX6_man : ByteArray := prog_8_method_13_code
def yX6_man : MethodName := ⟨RX6, "man", "(III)I"⟩
abbrev cX6_told : ByteArray := prog_8_method_14_code
def yX6_told : MethodName := ⟨RX6, "told", "(II)I"⟩
abbrev cX6_placeOf : ByteArray := prog_8_method_15_code
def yX6_placeOf : MethodName := ⟨RX6, "placeOf", "(I)I"⟩
abbrev cX6_feed : ByteArray := prog_8_method_16_code
def yX6_feed : MethodName := ⟨RX6, "feed", "(I)I"⟩
abbrev cX6_byteAt : ByteArray := prog_8_method_17_code
def yX6_byteAt : MethodName := ⟨RX6, "byteAt", "(I)I"⟩
abbrev cX6_next : ByteArray := prog_8_method_18_code
def yX6_next : MethodName := ⟨RX6, "next", "()V"⟩
abbrev cX6_fail : ByteArray := prog_8_method_19_code
def yX6_fail : MethodName := ⟨RX6, "fail", "()V"⟩
abbrev cX6_isLetter : ByteArray := prog_8_method_20_code
def yX6_isLetter : MethodName := ⟨RX6, "isLetter", "(II)Z"⟩
abbrev cX6_isWord : ByteArray := prog_8_method_21_code
def yX6_isWord : MethodName := ⟨RX6, "isWord", "(IIIIIIII)Z"⟩
abbrev cX6_isSign : ByteArray := prog_8_method_22_code
def yX6_isSign : MethodName := ⟨RX6, "isSign", "(I)Z"⟩
abbrev cX6_textOpens : ByteArray := prog_8_method_23_code
def yX6_textOpens : MethodName := ⟨RX6, "textOpens", "()Z"⟩
abbrev cX6_name : ByteArray := prog_8_method_24_code
def yX6_name : MethodName := ⟨RX6, "name", "()I"⟩
abbrev cX6_atom : ByteArray := prog_8_method_25_code
def yX6_atom : MethodName := ⟨RX6, "atom", "()I"⟩
abbrev cX6_term : ByteArray := prog_8_method_26_code
def yX6_term : MethodName := ⟨RX6, "term", "()I"⟩
abbrev cX6_added : ByteArray := prog_8_method_27_code
def yX6_added : MethodName := ⟨RX6, "added", "()I"⟩
abbrev cX6_not : ByteArray := prog_8_method_28_code
def yX6_not : MethodName := ⟨RX6, "not", "()I"⟩
abbrev cX6_both : ByteArray := prog_8_method_29_code
def yX6_both : MethodName := ⟨RX6, "both", "()I"⟩
abbrev cX6_either : ByteArray := prog_8_method_30_code
def yX6_either : MethodName := ⟨RX6, "either", "()I"⟩
abbrev cX6_part : ByteArray := prog_8_method_31_code
def yX6_part : MethodName := ⟨RX6, "part", "(Z)I"⟩
abbrev cX6_read : ByteArray := prog_8_method_32_code
def yX6_read : MethodName := ⟨RX6, "read", "(II)I"⟩
abbrev cX6_text : ByteArray := prog_8_method_33_code
def yX6_text : MethodName := ⟨RX6, "text", "()I"⟩
abbrev cX6_force : ByteArray := prog_8_method_34_code
def yX6_force : MethodName := ⟨RX6, "force", "(I)I"⟩
abbrev cX6_says : ByteArray := prog_8_method_35_code
def yX6_says : MethodName := ⟨RX6, "says", "(III)I"⟩
abbrev cX6_gripsOf : ByteArray := prog_8_method_36_code
def yX6_gripsOf : MethodName := ⟨RX6, "gripsOf", "(II)I"⟩
abbrev cX6_handsOf : ByteArray := prog_8_method_37_code
def yX6_handsOf : MethodName := ⟨RX6, "handsOf", "(II)I"⟩
abbrev cX6_spentOf : ByteArray := prog_8_method_38_code
def yX6_spentOf : MethodName := ⟨RX6, "spentOf", "(I)I"⟩
abbrev cX6_grips : ByteArray := prog_8_method_39_code
def yX6_grips : MethodName := ⟨RX6, "grips", "(II)I"⟩
abbrev cX6_hands : ByteArray := prog_8_method_40_code
def yX6_hands : MethodName := ⟨RX6, "hands", "(II)I"⟩
abbrev cX6_hold : ByteArray := prog_8_method_41_code
def yX6_hold : MethodName := ⟨RX6, "hold", "(I)I"⟩
abbrev cX6_weakest : ByteArray := prog_8_method_42_code
def yX6_weakest : MethodName := ⟨RX6, "weakest", "()I"⟩
abbrev cX6_gates : ByteArray := prog_8_method_43_code
def yX6_gates : MethodName := ⟨RX6, "gates", "()I"⟩
abbrev cX6_firstGate : ByteArray := prog_8_method_44_code
def yX6_firstGate : MethodName := ⟨RX6, "firstGate", "()I"⟩
abbrev cX6_wall : ByteArray := prog_8_method_45_code
def yX6_wall : MethodName := ⟨RX6, "wall", "(I)I"⟩
abbrev cX6_closesUp : ByteArray := prog_8_method_46_code
def yX6_closesUp : MethodName := ⟨RX6, "closesUp", "(I)V"⟩
abbrev cX6_stands : ByteArray := prog_8_method_47_code
def yX6_stands : MethodName := ⟨RX6, "stands", "(II)V"⟩
abbrev cX6_out : ByteArray := prog_8_method_48_code
def yX6_out : MethodName := ⟨RX6, "out", "(I)I"⟩
abbrev cX6_into : ByteArray := prog_8_method_49_code
def yX6_into : MethodName := ⟨RX6, "into", "(II)I"⟩
abbrev cX6_change : ByteArray := prog_8_method_50_code
def yX6_change : MethodName := ⟨RX6, "change", "(II)V"⟩
abbrev cX6_swap : ByteArray := prog_8_method_51_code
def yX6_swap : MethodName := ⟨RX6, "swap", "(II)I"⟩
abbrev cX6_passes : ByteArray := prog_8_method_52_code
def yX6_passes : MethodName := ⟨RX6, "passes", "()V"⟩
abbrev cX6_hour : ByteArray := prog_8_method_53_code
def yX6_hour : MethodName := ⟨RX6, "hour", "()I"⟩
abbrev cX6_sneeze : ByteArray := prog_8_method_54_code
def yX6_sneeze : MethodName := ⟨RX6, "sneeze", "(III)I"⟩
abbrev cX6_laysAside : ByteArray := prog_8_method_55_code
def yX6_laysAside : MethodName := ⟨RX6, "laysAside", "()V"⟩
abbrev cX6_laysBack : ByteArray := prog_8_method_56_code
def yX6_laysBack : MethodName := ⟨RX6, "laysBack", "()V"⟩
abbrev cX6_run : ByteArray := prog_8_method_57_code
def yX6_run : MethodName := ⟨RX6, "run", "(II)I"⟩
abbrev cX6_opens : ByteArray := prog_8_method_58_code
def yX6_opens : MethodName := ⟨RX6, "opens", "()I"⟩
abbrev cX6_digitsOf : ByteArray := prog_8_method_59_code
def yX6_digitsOf : MethodName := ⟨RX6, "digitsOf", "()I"⟩
abbrev cX6_orders : ByteArray := prog_8_method_60_code
def yX6_orders : MethodName := ⟨RX6, "orders", "(II)V"⟩
abbrev cX6_order : ByteArray := prog_8_method_61_code
def yX6_order : MethodName := ⟨RX6, "order", "(I)I"⟩
abbrev cX6_let : ByteArray := prog_8_method_62_code
def yX6_let : MethodName := ⟨RX6, "let", "(I)I"⟩
abbrev cX6_letsIn : ByteArray := prog_8_method_63_code
def yX6_letsIn : MethodName := ⟨RX6, "letsIn", "(II)I"⟩
abbrev cX6_shutBy : ByteArray := prog_8_method_64_code
def yX6_shutBy : MethodName := ⟨RX6, "shutBy", "(I)Z"⟩
abbrev cX6_swaps : ByteArray := prog_8_method_65_code
def yX6_swaps : MethodName := ⟨RX6, "swaps", "()I"⟩
abbrev cX6_lowest : ByteArray := prog_8_method_66_code
def yX6_lowest : MethodName := ⟨RX6, "lowest", "(JJI)J"⟩
abbrev cX6_mean : ByteArray := prog_8_method_67_code
def yX6_mean : MethodName := ⟨RX6, "mean", "(I)J"⟩
abbrev cX6_firstOther : ByteArray := prog_8_method_68_code
def yX6_firstOther : MethodName := ⟨RX6, "firstOther", "(I)I"⟩
abbrev cX6_tells : ByteArray := prog_8_method_69_code
def yX6_tells : MethodName := ⟨RX6, "tells", "(III)I"⟩
abbrev cX6_film : ByteArray := prog_8_method_70_code
def yX6_film : MethodName := ⟨RX6, "film", "(I)I"⟩
abbrev cX6_weakestDrawn : ByteArray := prog_8_method_71_code
def yX6_weakestDrawn : MethodName := ⟨RX6, "weakestDrawn", "(II)I"⟩
abbrev cX6_drawn : ByteArray := prog_8_method_72_code
def yX6_drawn : MethodName := ⟨RX6, "drawn", "(II)I"⟩
abbrev cX6_chance : ByteArray := prog_8_method_73_code
def yX6_chance : MethodName := ⟨RX6, "chance", "(IIII)J"⟩
abbrev cX6_image : ByteArray := prog_8_method_74_code
def yX6_image : MethodName := ⟨RX6, "image", "()I"⟩
abbrev cX6_back : ByteArray := prog_8_method_75_code
def yX6_back : MethodName := ⟨RX6, "back", "()I"⟩
abbrev cX6_count : ByteArray := prog_8_method_76_code
def yX6_count : MethodName := ⟨RX6, "count", "(I)I"⟩
abbrev cX6_isSheet : ByteArray := prog_8_method_77_code
def yX6_isSheet : MethodName := ⟨RX6, "isSheet", "(I)Z"⟩
abbrev cX6_sheet : ByteArray := prog_8_method_78_code
def yX6_sheet : MethodName := ⟨RX6, "sheet", "(III)I"⟩
abbrev cX6_cell : ByteArray := prog_8_method_79_code
def yX6_cell : MethodName := ⟨RX6, "cell", "(III)I"⟩
abbrev cX6_copy : ByteArray := prog_8_method_80_code
def yX6_copy : MethodName := ⟨RX6, "copy", "(IIIII)I"⟩
abbrev cX6_chain : ByteArray := prog_8_method_81_code
def yX6_chain : MethodName := ⟨RX6, "chain", "(IIII)I"⟩
abbrev cX6_over : ByteArray := prog_8_method_82_code
def yX6_over : MethodName := ⟨RX6, "over", "(I)I"⟩
abbrev cX6_taken : ByteArray := prog_8_method_83_code
def yX6_taken : MethodName := ⟨RX6, "taken", "(II)I"⟩
def RJ9 : String := "java/lang/Math"
def TJ9 : u_T := fun k => match k with
  | _ => ("", "", "", false)
def tyJ9 : Nat → FieldType := fun k => match k with
  | _ => .int
abbrev wsJ90 : List Cond := u_ws RJ9 TJ9 0
theorem nmJ9 : ∀ a, a < 0 → ∀ b, b < 0 → a ≠ b → (TJ9 a).2.1 ≠ (TJ9 b).2.1 := by decide +kernel
theorem tyJ9_ok : ∀ k, k < 0 → parseFieldDescriptor (TJ9 k).2.2.1 = some (tyJ9 k) := by decide +kernel
abbrev cJ9_max_7cf53 : ByteArray := prog_9_method_65_code
def yJ9_max_7cf53 : MethodName := ⟨RJ9, "max", "(II)I"⟩
abbrev cJ9_min_7cf53 : ByteArray := prog_9_method_69_code
def yJ9_min_7cf53 : MethodName := ⟨RJ9, "min", "(II)I"⟩
def RJ0 : String := "java/lang/String"
def TJ0 : u_T := fun k => match k with
  | _ => ("", "", "", false)
def tyJ0 : Nat → FieldType := fun k => match k with
  | _ => .int
abbrev wsJ00 : List Cond := u_ws RJ0 TJ0 0
theorem nmJ0 : ∀ a, a < 0 → ∀ b, b < 0 → a ≠ b → (TJ0 a).2.1 ≠ (TJ0 b).2.1 := by decide +kernel
theorem tyJ0_ok : ∀ k, k < 0 → parseFieldDescriptor (TJ0 k).2.2.1 = some (tyJ0 k) := by decide +kernel
abbrev cJ0_length_8abf5 : ByteArray := prog_10_method_54_code
def yJ0_length_8abf5 : MethodName := ⟨RJ0, "length", "()I"⟩
abbrev cJ0_charAt_5068e : ByteArray := prog_10_method_56_code
def yJ0_charAt_5068e : MethodName := ⟨RJ0, "charAt", "(I)C"⟩
abbrev cJ0_coder_7d493 : ByteArray := prog_10_method_152_code
def yJ0_coder_7d493 : MethodName := ⟨RJ0, "coder", "()B"⟩
abbrev cJ0_isLatin1_aae02 : ByteArray := prog_10_method_154_code
def yJ0_isLatin1_aae02 : MethodName := ⟨RJ0, "isLatin1", "()Z"⟩
abbrev cJ0_checkIndex_df160 : ByteArray := prog_10_method_155_code
def yJ0_checkIndex_df160 : MethodName := ⟨RJ0, "checkIndex", "(II)V"⟩
def RJ1 : String := "java/lang/StringLatin1"
def TJ1 : u_T := fun k => match k with
  | _ => ("", "", "", false)
def tyJ1 : Nat → FieldType := fun k => match k with
  | _ => .int
abbrev wsJ10 : List Cond := u_ws RJ1 TJ1 0
theorem nmJ1 : ∀ a, a < 0 → ∀ b, b < 0 → a ≠ b → (TJ1 a).2.1 ≠ (TJ1 b).2.1 := by decide +kernel
theorem tyJ1_ok : ∀ k, k < 0 → parseFieldDescriptor (TJ1 k).2.2.1 = some (tyJ1 k) := by decide +kernel
abbrev cJ1_charAt_3b067 : ByteArray := prog_11_method_2_code
def yJ1_charAt_3b067 : MethodName := ⟨RJ1, "charAt", "([BI)C"⟩
def RJ2 : String := "java/lang/StringUTF16"
def TJ2 : u_T := fun k => match k with
  | _ => ("", "", "", false)
def tyJ2 : Nat → FieldType := fun k => match k with
  | _ => .int
abbrev wsJ20 : List Cond := u_ws RJ2 TJ2 0
theorem nmJ2 : ∀ a, a < 0 → ∀ b, b < 0 → a ≠ b → (TJ2 a).2.1 ≠ (TJ2 b).2.1 := by decide +kernel
theorem tyJ2_ok : ∀ k, k < 0 → parseFieldDescriptor (TJ2 k).2.2.1 = some (tyJ2 k) := by decide +kernel
abbrev cJ2_getChar_3b067 : ByteArray := prog_12_method_5_code
def yJ2_getChar_3b067 : MethodName := ⟨RJ2, "getChar", "([BI)C"⟩
abbrev cJ2_length_9d52b : ByteArray := prog_12_method_6_code
def yJ2_length_9d52b : MethodName := ⟨RJ2, "length", "([B)I"⟩
abbrev cJ2_charAt_3b067 : ByteArray := prog_12_method_83_code
def yJ2_charAt_3b067 : MethodName := ⟨RJ2, "charAt", "([BI)C"⟩
abbrev cJ2_checkIndex_2214a : ByteArray := prog_12_method_91_code
def yJ2_checkIndex_2214a : MethodName := ⟨RJ2, "checkIndex", "(I[B)V"⟩
def RJ10 : String := "java/lang/System"
def TJ10 : u_T := fun k => match k with
  | _ => ("", "", "", false)
def tyJ10 : Nat → FieldType := fun k => match k with
  | _ => .int
abbrev wsJ100 : List Cond := u_ws RJ10 TJ10 0
theorem nmJ10 : ∀ a, a < 0 → ∀ b, b < 0 → a ≠ b → (TJ10 a).2.1 ≠ (TJ10 b).2.1 := by decide +kernel
theorem tyJ10_ok : ∀ k, k < 0 → parseFieldDescriptor (TJ10 k).2.2.1 = some (tyJ10 k) := by decide +kernel
def RJ3 : String := "jdk/internal/util/Preconditions"
def TJ3 : u_T := fun k => match k with
  | _ => ("", "", "", false)
def tyJ3 : Nat → FieldType := fun k => match k with
  | _ => .int
abbrev wsJ30 : List Cond := u_ws RJ3 TJ3 0
theorem nmJ3 : ∀ a, a < 0 → ∀ b, b < 0 → a ≠ b → (TJ3 a).2.1 ≠ (TJ3 b).2.1 := by decide +kernel
theorem tyJ3_ok : ∀ k, k < 0 → parseFieldDescriptor (TJ3 k).2.2.1 = some (tyJ3 k) := by decide +kernel
abbrev cJ3_checkIndex_8e157 : ByteArray := prog_14_method_11_code
def yJ3_checkIndex_8e157 : MethodName := ⟨RJ3, "checkIndex", "(IILjava/util/function/BiFunction;)I"⟩
def RL : String := "WallsOfPrisonersLaw"
abbrev cL_law : ByteArray := code
def yL_law : MethodName := ⟨RL, "law", "([I)Z"⟩
def wsL_law_r1 : List Cond := [Cond.classLink RL 7 RX5, Cond.instantiable RX5 8, Cond.initialized RX5, Cond.classLink RL 10 RX6, Cond.instantiable RX6 44, Cond.initialized RX6, Cond.methodLink RL 9 yX5_init, Cond.instanceMethod yX5_init, Cond.code yX5_init cX5_init 3 none, Cond.methodLink RX5 3 objectInit, Cond.instanceMethod objectInit, Cond.code objectInit ⟨#[0xb1]⟩ 1 none, Cond.classLink RX5 9 RX4, Cond.instantiable RX4 5, Cond.initialized RX4, Cond.fieldLink RX5 12 "WallsOfPrisoners" "texts" "LWallsOfPrisoners$Texts;", Cond.classLink RX5 16 RX2, Cond.instantiable RX2 7, Cond.initialized RX2, Cond.fieldLink RX5 21 "WallsOfPrisoners" "reader" "LWallsOfPrisoners$Reader;", Cond.classLink RX5 25 RX0, Cond.instantiable RX0 10, Cond.initialized RX0, Cond.fieldLink RX5 28 "WallsOfPrisoners" "marsh" "LWallsOfPrisoners$Marsh;"]
def wsL_law_r2 : List Cond := [Cond.fieldLink RX5 32 "WallsOfPrisoners" "thought" "LWallsOfPrisoners$Marsh;", Cond.fieldLink RX5 35 "WallsOfPrisoners" "kept" "LWallsOfPrisoners$Marsh;", Cond.classLink RX5 38 RX1, Cond.instantiable RX1 6, Cond.initialized RX1, Cond.fieldLink RX5 41 "WallsOfPrisoners" "orders" "LWallsOfPrisoners$Orders;", Cond.classLink RX5 45 RX3, Cond.fieldLink RX5 47 "WallsOfPrisoners" "sheets" "[LWallsOfPrisoners$Sheet;", Cond.instantiable RX3 3, Cond.initialized RX3, Cond.instanceMethod yX4_init, Cond.code yX4_init cX4_init 1 none, Cond.methodLink RX4 3 objectInit, Cond.arrayClass .int, Cond.fieldLink RX4 9 "WallsOfPrisoners$Texts" "codes" "[I", Cond.fieldLink RX4 15 "WallsOfPrisoners$Texts" "ends" "[I", Cond.fieldLink RX4 18 "WallsOfPrisoners$Texts" "stack" "[I", Cond.methodLink RX5 18 yX2_init, Cond.instanceMethod yX2_init, Cond.code yX2_init cX2_init 2 none, Cond.methodLink RX2 3 objectInit, Cond.fieldLink RX2 9 "WallsOfPrisoners$Reader" "tape" "[I", Cond.fieldLink RX2 15 "WallsOfPrisoners$Reader" "texts" "LWallsOfPrisoners$Texts;", Cond.methodLink RX5 27 yX0_init]
def wsL_law_r3 : List Cond := [Cond.instanceMethod yX0_init, Cond.code yX0_init cX0_init 2 none, Cond.methodLink RX0 3 objectInit, Cond.fieldLink RX0 9 "WallsOfPrisoners$Marsh" "kind" "[I", Cond.fieldLink RX0 15 "WallsOfPrisoners$Marsh" "number" "[I", Cond.fieldLink RX0 18 "WallsOfPrisoners$Marsh" "strength" "[I", Cond.fieldLink RX0 21 "WallsOfPrisoners$Marsh" "ring" "[I", Cond.fieldLink RX0 24 "WallsOfPrisoners$Marsh" "texts" "LWallsOfPrisoners$Texts;", Cond.instanceMethod yX1_init, Cond.code yX1_init cX1_init 1 none, Cond.methodLink RX1 3 objectInit, Cond.fieldLink RX1 9 "WallsOfPrisoners$Orders" "hardness" "[I", Cond.fieldLink RX1 15 "WallsOfPrisoners$Orders" "ring" "[I", Cond.fieldLink RX1 18 "WallsOfPrisoners$Orders" "atFirst" "[I", Cond.fieldLink RX1 21 "WallsOfPrisoners$Orders" "best" "[I", Cond.instanceMethod yX3_init, Cond.code yX3_init cX3_init 1 none, Cond.methodLink RX3 3 objectInit, Cond.fieldLink RX3 9 "WallsOfPrisoners$Sheet" "row" "[I", Cond.fieldLink RX3 15 "WallsOfPrisoners$Sheet" "sort" "I", Cond.methodLink RX5 54 yJ0_length_8abf5, Cond.instanceMethod yJ0_length_8abf5, Cond.selects RJ0 yJ0_length_8abf5 yJ0_length_8abf5, Cond.initialized RJ0]
def wsL_law_r4 : List Cond := [Cond.code yJ0_length_8abf5 cJ0_length_8abf5 1 (some .int), Cond.fieldLink RJ0 9 "java/lang/String" "value" "[B", Cond.methodLink RJ0 335 yJ0_coder_7d493, Cond.instanceMethod yJ0_coder_7d493, Cond.selects RJ0 yJ0_coder_7d493 yJ0_coder_7d493, Cond.code yJ0_coder_7d493 cJ0_coder_7d493 1 (some .byte), Cond.fieldLink RJ0 38 "java/lang/String" "COMPACT_STRINGS" "Z", Cond.fieldLink RJ0 15 "java/lang/String" "coder" "B", Cond.methodLink RX5 60 yJ0_charAt_5068e, Cond.instanceMethod yJ0_charAt_5068e, Cond.selects RJ0 yJ0_charAt_5068e yJ0_charAt_5068e, Cond.code yJ0_charAt_5068e cJ0_charAt_5068e 2 (some .char), Cond.methodLink RJ0 492 yJ0_isLatin1_aae02, Cond.instanceMethod yJ0_isLatin1_aae02, Cond.selects RJ0 yJ0_isLatin1_aae02 yJ0_isLatin1_aae02, Cond.code yJ0_isLatin1_aae02 cJ0_isLatin1_aae02 1 (some .boolean), Cond.methodLink RJ0 495 yJ1_charAt_3b067, Cond.static yJ1_charAt_3b067, Cond.initialized RJ1, Cond.code yJ1_charAt_3b067 cJ1_charAt_3b067 2 (some .char), Cond.methodLink RJ1 9 yJ0_checkIndex_df160, Cond.static yJ0_checkIndex_df160, Cond.code yJ0_checkIndex_df160 cJ0_checkIndex_df160 2 none, Cond.fieldLink RJ0 1053 "jdk/internal/util/Preconditions" "SIOOBE_FORMATTER" "Ljava/util/function/BiFunction;"]
def wsL_law_r5 : List Cond := [Cond.methodLink RJ0 1059 yJ3_checkIndex_8e157, Cond.static yJ3_checkIndex_8e157, Cond.initialized RJ3, Cond.code yJ3_checkIndex_8e157 cJ3_checkIndex_8e157 3 (some .int), Cond.methodLink RJ0 498 yJ2_charAt_3b067, Cond.static yJ2_charAt_3b067, Cond.initialized RJ2, Cond.code yJ2_charAt_3b067 cJ2_charAt_3b067 2 (some .char), Cond.methodLink RJ2 67 yJ2_checkIndex_2214a, Cond.static yJ2_checkIndex_2214a, Cond.code yJ2_checkIndex_2214a cJ2_checkIndex_2214a 2 none, Cond.methodLink RJ2 48 yJ2_length_9d52b, Cond.static yJ2_length_9d52b, Cond.code yJ2_length_9d52b cJ2_length_9d52b 1 (some .int), Cond.methodLink RJ2 414 yJ0_checkIndex_df160, Cond.methodLink RJ2 71 yJ2_getChar_3b067, Cond.static yJ2_getChar_3b067, Cond.code yJ2_getChar_3b067 cJ2_getChar_3b067 2 (some .char), Cond.fieldLink RJ2 44 "java/lang/StringUTF16" "$assertionsDisabled" "Z", Cond.fieldLink RJ2 59 "java/lang/StringUTF16" "HI_BYTE_SHIFT" "I", Cond.fieldLink RJ2 63 "java/lang/StringUTF16" "LO_BYTE_SHIFT" "I", Cond.methodLink RX5 64 yX2_add, Cond.instanceMethod yX2_add, Cond.selects RX2 yX2_add yX2_add]
def wsL_law_r6 : List Cond := [Cond.code yX2_add cX2_add 2 (some .boolean), Cond.fieldLink RX2 19 "WallsOfPrisoners$Reader" "size" "I", Cond.methodLink RX5 68 yX2_read, Cond.instanceMethod yX2_read, Cond.selects RX2 yX2_read yX2_read, Cond.code yX2_read cX2_read 3 (some .int), Cond.fieldLink RX2 23 "WallsOfPrisoners$Reader" "at" "I", Cond.fieldLink RX2 38 "WallsOfPrisoners$Reader" "token" "I", Cond.fieldLink RX2 41 "WallsOfPrisoners$Texts" "many" "I", Cond.fieldLink RX2 44 "WallsOfPrisoners$Reader" "start" "I", Cond.methodLink RX2 26 yX4_begin, Cond.instanceMethod yX4_begin, Cond.selects RX4 yX4_begin yX4_begin, Cond.code yX4_begin cX4_begin 1 none, Cond.fieldLink RX4 21 "WallsOfPrisoners$Texts" "many" "I", Cond.fieldLink RX4 25 "WallsOfPrisoners$Texts" "written" "I", Cond.methodLink RX2 31 yX2_advance, Cond.instanceMethod yX2_advance, Cond.selects RX2 yX2_advance yX2_advance, Cond.code yX2_advance cX2_advance 2 none, Cond.methodLink RX2 84 yX2_letterAt, Cond.instanceMethod yX2_letterAt, Cond.selects RX2 yX2_letterAt yX2_letterAt, Cond.code yX2_letterAt cX2_letterAt 2 (some .int)]
def wsL_law_r7 : List Cond := [Cond.methodLink RX2 88 yX2_isDigit, Cond.static yX2_isDigit, Cond.code yX2_isDigit cX2_isDigit 1 (some .boolean), Cond.methodLink RX2 91 yX2_readDigits, Cond.instanceMethod yX2_readDigits, Cond.selects RX2 yX2_readDigits yX2_readDigits, Cond.code yX2_readDigits cX2_readDigits 2 none, Cond.fieldLink RX2 75 "WallsOfPrisoners$Reader" "worth" "I", Cond.methodLink RX2 94 yX2_isSmall, Cond.static yX2_isSmall, Cond.code yX2_isSmall cX2_isSmall 1 (some .boolean), Cond.methodLink RX2 97 yX2_readWord, Cond.instanceMethod yX2_readWord, Cond.selects RX2 yX2_readWord yX2_readWord, Cond.code yX2_readWord cX2_readWord 2 none, Cond.methodLink RX2 103 yX2_word, Cond.static yX2_word, Cond.code yX2_word cX2_word 1 (some (.object "java/lang/String")), Cond.methodLink RX2 107 yX2_isHere, Cond.instanceMethod yX2_isHere, Cond.selects RX2 yX2_isHere yX2_isHere, Cond.code yX2_isHere cX2_isHere 3 (some .boolean), Cond.methodLink RX2 111 yJ0_length_8abf5, Cond.methodLink RX2 117 yJ0_charAt_5068e]
def wsL_law_r8 : List Cond := [Cond.methodLink RX2 100 yX2_isSign, Cond.static yX2_isSign, Cond.code yX2_isSign cX2_isSign 1 (some .boolean), Cond.methodLink RX2 34 yX2_readPart, Cond.instanceMethod yX2_readPart, Cond.selects RX2 yX2_readPart yX2_readPart, Cond.code yX2_readPart cX2_readPart 2 (some .boolean), Cond.methodLink RX2 47 yX2_readEither, Cond.instanceMethod yX2_readEither, Cond.selects RX2 yX2_readEither yX2_readEither, Cond.code yX2_readEither cX2_readEither 4 (some .boolean), Cond.methodLink RX2 54 yX2_readBoth, Cond.instanceMethod yX2_readBoth, Cond.selects RX2 yX2_readBoth yX2_readBoth, Cond.methodLink RX2 57 yX4_put, Cond.instanceMethod yX4_put, Cond.selects RX4 yX4_put yX4_put, Cond.code yX4_put cX4_put 2 none, Cond.code yX2_readBoth cX2_readBoth 4 (some .boolean), Cond.methodLink RX2 60 yX2_readDenial, Cond.instanceMethod yX2_readDenial, Cond.selects RX2 yX2_readDenial yX2_readDenial, Cond.code yX2_readBrackets cX2_readBrackets 2 (some .boolean), Cond.code yX2_readComparison cX2_readComparison 4 (some .boolean)]
def wsL_law_r9 : List Cond := [Cond.methodLink RX2 66 yX2_readSum, Cond.instanceMethod yX2_readSum, Cond.selects RX2 yX2_readSum yX2_readSum, Cond.code yX2_readDenial cX2_readDenial 3 (some .boolean), Cond.methodLink RX2 63 yX2_readComparison, Cond.instanceMethod yX2_readComparison, Cond.selects RX2 yX2_readComparison yX2_readComparison, Cond.code yX2_readNegation cX2_readNegation 3 (some .boolean), Cond.methodLink RX2 72 yX2_readOne, Cond.instanceMethod yX2_readOne, Cond.selects RX2 yX2_readOne yX2_readOne, Cond.code yX2_readOne cX2_readOne 2 (some .boolean), Cond.methodLink RX2 78 yX2_readNegation, Cond.instanceMethod yX2_readNegation, Cond.selects RX2 yX2_readNegation yX2_readNegation, Cond.methodLink RX2 81 yX2_readBrackets, Cond.instanceMethod yX2_readBrackets, Cond.selects RX2 yX2_readBrackets yX2_readBrackets, Cond.code yX2_readSum cX2_readSum 5 (some .boolean), Cond.methodLink RX2 69 yX2_readTerm, Cond.instanceMethod yX2_readTerm, Cond.selects RX2 yX2_readTerm yX2_readTerm, Cond.code yX2_readTerm cX2_readTerm 4 (some .boolean), Cond.methodLink RX2 50 yX4_endPart]
def wsL_law_r10 : List Cond := [Cond.instanceMethod yX4_endPart, Cond.selects RX4 yX4_endPart yX4_endPart, Cond.code yX4_endPart cX4_endPart 3 none, Cond.methodLink RL 12 yX6_init, Cond.instanceMethod yX6_init, Cond.code yX6_init cX6_init 1 none, Cond.methodLink RX6 7 objectInit, Cond.fieldLink RX6 13 "WallsOfPrisonersModel" "texts" "[I", Cond.fieldLink RX6 17 "WallsOfPrisonersModel" "textSize" "[I", Cond.fieldLink RX6 20 "WallsOfPrisonersModel" "tape" "[I", Cond.fieldLink RX6 23 "WallsOfPrisonersModel" "rows" "[I", Cond.fieldLink RX6 26 "WallsOfPrisonersModel" "ring" "[I", Cond.fieldLink RX6 29 "WallsOfPrisonersModel" "spent" "[I", Cond.fieldLink RX6 32 "WallsOfPrisonersModel" "was" "[I", Cond.fieldLink RX6 35 "WallsOfPrisonersModel" "ringWas" "[I", Cond.fieldLink RX6 38 "WallsOfPrisonersModel" "rowsKept" "[I", Cond.fieldLink RX6 41 "WallsOfPrisonersModel" "ringKept" "[I", Cond.fieldLink RX6 44 "WallsOfPrisonersModel" "menKept" "I", Cond.arrayClass .boolean, Cond.fieldLink RX6 47 "WallsOfPrisonersModel" "isThere" "[Z", Cond.fieldLink RX6 51 "WallsOfPrisonersModel" "sorts" "[I", Cond.fieldLink RX6 54 "WallsOfPrisonersModel" "sheetSize" "[I", Cond.fieldLink RX6 57 "WallsOfPrisonersModel" "items" "[I", Cond.fieldLink RX6 64 "WallsOfPrisonersModel" "textCount" "I"]
def wsL_law_r11 : List Cond := [Cond.methodLink RX6 60 yX6_spell, Cond.instanceMethod yX6_spell, Cond.selects RX6 yX6_spell yX6_spell, Cond.code yX6_spell cX6_spell 10 none, Cond.methodLink RL 13 yX5_set, Cond.instanceMethod yX5_set, Cond.selects RX5 yX5_set yX5_set, Cond.code yX5_set cX5_set 5 (some .int), Cond.methodLink RX5 71 yX5_greatest, Cond.static yX5_greatest, Cond.code yX5_greatest cX5_greatest 1 (some .int), Cond.methodLink RX5 75 yX0_has, Cond.instanceMethod yX0_has, Cond.selects RX0 yX0_has yX0_has, Cond.code yX0_has cX0_has 2 (some .boolean), Cond.fieldLink RX0 34 "WallsOfPrisoners$Marsh" "men" "I", Cond.methodLink RX5 78 yX0_trait, Cond.instanceMethod yX0_trait, Cond.selects RX0 yX0_trait yX0_trait, Cond.code yX0_trait cX0_trait 3 (some .int), Cond.fieldLink RX0 41 "WallsOfPrisoners$Marsh" "hour" "I", Cond.fieldLink RX0 44 "WallsOfPrisoners$Marsh" "cold" "I", Cond.methodLink RX0 54 yX0_has, Cond.methodLink RX5 82 yX0_suppose]
def wsL_law_r12 : List Cond := [Cond.instanceMethod yX0_suppose, Cond.selects RX0 yX0_suppose yX0_suppose, Cond.code yX0_suppose cX0_suppose 5 none, Cond.fieldLink RX0 47 "WallsOfPrisoners$Marsh" "rule" "I", Cond.methodLink RL 17 yX6_set, Cond.instanceMethod yX6_set, Cond.selects RX6 yX6_set yX6_set, Cond.code yX6_set cX6_set 5 (some .int), Cond.constantLong RX6 84 (3), Cond.methodLink RX6 70 yX6_in, Cond.static yX6_in, Cond.code yX6_in cX6_in 6 (some .boolean), Cond.methodLink RX6 86 yX6_isOf, Cond.instanceMethod yX6_isOf, Cond.selects RX6 yX6_isOf yX6_isOf, Cond.code yX6_isOf cX6_isOf 3 (some .boolean), Cond.fieldLink RX6 78 "WallsOfPrisonersModel" "size" "I", Cond.methodLink RX6 74 yX6_isOne, Cond.instanceMethod yX6_isOne, Cond.selects RX6 yX6_isOne yX6_isOne, Cond.code yX6_isOne cX6_isOne 2 (some .boolean), Cond.fieldLink RX6 67 "WallsOfPrisonersModel" "men" "I", Cond.methodLink RX6 81 yX6_isPlace, Cond.instanceMethod yX6_isPlace]
def wsL_law_r13 : List Cond := [Cond.selects RX6 yX6_isPlace yX6_isPlace, Cond.code yX6_isPlace cX6_isPlace 2 (some .boolean), Cond.methodLink RX6 90 yX6_mostOf, Cond.static yX6_mostOf, Cond.code yX6_mostOf cX6_mostOf 1 (some .int), Cond.methodLink RX6 94 yX6_told, Cond.instanceMethod yX6_told, Cond.selects RX6 yX6_told yX6_told, Cond.code yX6_told cX6_told 3 (some .int), Cond.constantLong RX6 117 (8), Cond.fieldLink RX6 102 "WallsOfPrisonersModel" "hourNow" "I", Cond.fieldLink RX6 105 "WallsOfPrisonersModel" "cold" "I", Cond.methodLink RX6 119 yX6_placeOf, Cond.instanceMethod yX6_placeOf, Cond.selects RX6 yX6_placeOf yX6_placeOf, Cond.code yX6_placeOf cX6_placeOf 4 (some .int), Cond.methodLink RX6 122 yX6_spentOf, Cond.instanceMethod yX6_spentOf, Cond.selects RX6 yX6_spentOf yX6_spentOf, Cond.code yX6_spentOf cX6_spentOf 4 (some .int), Cond.methodLink RX6 250 yX6_says, Cond.instanceMethod yX6_says, Cond.selects RX6 yX6_says yX6_says, Cond.code yX6_says cX6_says 4 (some .int)]
def wsL_law_r14 : List Cond := [Cond.fieldLink RX6 188 "WallsOfPrisonersModel" "ofStrength" "I", Cond.fieldLink RX6 191 "WallsOfPrisonersModel" "ofNext" "I", Cond.fieldLink RX6 194 "WallsOfPrisonersModel" "ofNumber" "I", Cond.fieldLink RX6 197 "WallsOfPrisonersModel" "ofHour" "I", Cond.fieldLink RX6 200 "WallsOfPrisonersModel" "ofCold" "I", Cond.fieldLink RX6 203 "WallsOfPrisonersModel" "ofMany" "I", Cond.fieldLink RX6 108 "WallsOfPrisonersModel" "rule" "I", Cond.methodLink RX6 243 yX6_read, Cond.instanceMethod yX6_read, Cond.selects RX6 yX6_read yX6_read, Cond.code yX6_read cX6_read 6 (some .int), Cond.fieldLink RX6 136 "WallsOfPrisonersModel" "from" "I", Cond.fieldLink RX6 133 "WallsOfPrisonersModel" "textEnd" "I", Cond.fieldLink RX6 139 "WallsOfPrisonersModel" "here" "I", Cond.fieldLink RX6 175 "WallsOfPrisonersModel" "open" "I", Cond.fieldLink RX6 165 "WallsOfPrisonersModel" "bad" "Z", Cond.fieldLink RX6 148 "WallsOfPrisonersModel" "token" "I", Cond.methodLink RX6 181 yX6_next, Cond.instanceMethod yX6_next, Cond.selects RX6 yX6_next yX6_next, Cond.code yX6_next cX6_next 3 none, Cond.fieldLink RX6 145 "WallsOfPrisonersModel" "tokenAt" "I", Cond.constantLong RX6 151 (97), Cond.constantLong RX6 153 (122)]
def wsL_law_r15 : List Cond := [Cond.constantLong RX6 155 (48), Cond.constantLong RX6 157 (57), Cond.fieldLink RX6 159 "WallsOfPrisonersModel" "tokenWorth" "J", Cond.constantLong RX6 163 (10), Cond.methodLink RX6 142 yX6_byteAt, Cond.instanceMethod yX6_byteAt, Cond.selects RX6 yX6_byteAt yX6_byteAt, Cond.code yX6_byteAt cX6_byteAt 2 (some .int), Cond.methodLink RX6 184 yX6_isWord, Cond.instanceMethod yX6_isWord, Cond.selects RX6 yX6_isWord yX6_isWord, Cond.code yX6_isWord cX6_isWord 9 (some .boolean), Cond.methodLink RX6 172 yX6_isLetter, Cond.instanceMethod yX6_isLetter, Cond.selects RX6 yX6_isLetter yX6_isLetter, Cond.code yX6_isLetter cX6_isLetter 3 (some .boolean), Cond.methodLink RX6 239 yX6_part, Cond.instanceMethod yX6_part, Cond.selects RX6 yX6_part yX6_part, Cond.code yX6_part cX6_part 3 (some .int), Cond.methodLink RX6 178 yX6_fail, Cond.instanceMethod yX6_fail, Cond.selects RX6 yX6_fail yX6_fail, Cond.code yX6_fail cX6_fail 1 none]
def wsL_law_r16 : List Cond := [Cond.fieldLink RX6 169 "WallsOfPrisonersModel" "fault" "I", Cond.methodLink RX6 217 yX6_either, Cond.instanceMethod yX6_either, Cond.selects RX6 yX6_either yX6_either, Cond.code yX6_either cX6_either 3 (some .int), Cond.methodLink RX6 236 yX6_both, Cond.instanceMethod yX6_both, Cond.selects RX6 yX6_both yX6_both, Cond.code yX6_added cX6_added 4 (some .int), Cond.constantLong RX6 226 (43), Cond.methodLink RX6 223 yX6_term, Cond.instanceMethod yX6_term, Cond.selects RX6 yX6_term yX6_term, Cond.methodLink RX6 206 yX6_isSign, Cond.instanceMethod yX6_isSign, Cond.selects RX6 yX6_isSign yX6_isSign, Cond.code yX6_isSign cX6_isSign 2 (some .boolean), Cond.code yX6_atom cX6_atom 2 (some .int), Cond.methodLink RX6 209 yX6_textOpens, Cond.instanceMethod yX6_textOpens, Cond.selects RX6 yX6_textOpens yX6_textOpens, Cond.code yX6_textOpens cX6_textOpens 1 (some .boolean), Cond.methodLink RX6 213 yX6_atom, Cond.instanceMethod yX6_atom]
def wsL_law_r17 : List Cond := [Cond.selects RX6 yX6_atom yX6_atom, Cond.methodLink RX6 220 yX6_name, Cond.instanceMethod yX6_name, Cond.selects RX6 yX6_name yX6_name, Cond.code yX6_name cX6_name 1 (some .int), Cond.code yX6_both cX6_both 3 (some .int), Cond.methodLink RX6 228 yX6_not, Cond.instanceMethod yX6_not, Cond.selects RX6 yX6_not yX6_not, Cond.code yX6_not cX6_not 4 (some .int), Cond.constantLong RX6 234 (60), Cond.methodLink RX6 231 yX6_added, Cond.instanceMethod yX6_added, Cond.selects RX6 yX6_added yX6_added, Cond.code yX6_term cX6_term 2 (some .int), Cond.methodLink RX6 246 yX6_within, Cond.static yX6_within, Cond.code yX6_within cX6_within 3 (some .int), Cond.methodLink RX6 125 yX6_hold, Cond.instanceMethod yX6_hold, Cond.selects RX6 yX6_hold yX6_hold, Cond.code yX6_hold cX6_hold 6 (some .int), Cond.methodLink RX6 256 yX6_gripsOf, Cond.instanceMethod yX6_gripsOf]
def wsL_law_r18 : List Cond := [Cond.selects RX6 yX6_gripsOf yX6_gripsOf, Cond.code yX6_gripsOf cX6_gripsOf 8 (some .int), Cond.methodLink RX6 98 yX6_lays, Cond.instanceMethod yX6_lays, Cond.selects RX6 yX6_lays yX6_lays, Cond.code yX6_lays cX6_lays 4 none, Cond.methodLink RL 18 yX5_man, Cond.instanceMethod yX5_man, Cond.selects RX5 yX5_man yX5_man, Cond.code yX5_man cX5_man 4 (some .int), Cond.methodLink RX5 86 yX0_join, Cond.instanceMethod yX0_join, Cond.selects RX0 yX0_join yX0_join, Cond.code yX0_join cX0_join 5 (some .int), Cond.fieldLink RX0 38 "WallsOfPrisoners$Marsh" "standing" "I", Cond.methodLink RX0 50 yX0_enter, Cond.instanceMethod yX0_enter, Cond.selects RX0 yX0_enter yX0_enter, Cond.code yX0_enter cX0_enter 4 none, Cond.methodLink RL 21 yX6_man, Cond.instanceMethod yX6_man, Cond.selects RX6 yX6_man yX6_man, Cond.code yX6_man cX6_man 4 (some .int), Cond.constantLong RX6 111 (5)]
def wsL_law_r19 : List Cond := [Cond.constantLong RX6 113 (9), Cond.constantLong RX6 115 (99), Cond.methodLink RL 22 yX5_told, Cond.instanceMethod yX5_told, Cond.selects RX5 yX5_told yX5_told, Cond.code yX5_told cX5_told 3 (some .int), Cond.methodLink RX5 90 yX0_placeOf, Cond.instanceMethod yX0_placeOf, Cond.selects RX0 yX0_placeOf yX0_placeOf, Cond.code yX0_placeOf cX0_placeOf 3 (some .int), Cond.methodLink RX5 93 yX0_spentBy, Cond.instanceMethod yX0_spentBy, Cond.selects RX0 yX0_spentBy yX0_spentBy, Cond.code yX0_spentBy cX0_spentBy 3 (some .int), Cond.methodLink RX0 95 yX4_value, Cond.instanceMethod yX4_value, Cond.selects RX4 yX4_value yX4_value, Cond.code yX4_value cX4_value 12 (some .int), Cond.fieldLink RX4 28 "WallsOfPrisoners$Marsh" "rule" "I", Cond.methodLink RX4 33 Lib.Math.min.name, Cond.static Lib.Math.min.name, Cond.initialized "java/lang/Math", Cond.code Lib.Math.min.name Lib.Math.min.code 2 (some .int), Cond.methodLink RX4 39 yX0_named]
def wsL_law_r20 : List Cond := [Cond.instanceMethod yX0_named, Cond.selects RX0 yX0_named yX0_named, Cond.code yX0_named cX0_named 4 (some .int), Cond.methodLink RX4 43 yX4_done, Cond.static yX4_done, Cond.code yX4_done cX4_done 3 (some .int), Cond.static yX5_bounded, Cond.code yX5_bounded cX5_bounded 1 (some .int), Cond.methodLink RX5 96 yX0_who, Cond.instanceMethod yX0_who, Cond.selects RX0 yX0_who yX0_who, Cond.code yX0_who cX0_who 2 (some .int), Cond.methodLink RX5 99 yX0_holds, Cond.instanceMethod yX0_holds, Cond.selects RX0 yX0_holds yX0_holds, Cond.code yX0_holds cX0_holds 1 (some .int), Cond.methodLink RX5 102 yX0_holdFrom, Cond.instanceMethod yX0_holdFrom, Cond.selects RX0 yX0_holdFrom yX0_holdFrom, Cond.code yX0_holdFrom cX0_holdFrom 4 (some .int), Cond.methodLink RX0 77 Lib.Math.min.name, Cond.methodLink RX0 58 yX0_who, Cond.methodLink RX0 71 yX0_placeBehind, Cond.instanceMethod yX0_placeBehind]
def wsL_law_r21 : List Cond := [Cond.selects RX0 yX0_placeBehind yX0_placeBehind, Cond.code yX0_placeBehind cX0_placeBehind 2 (some .int), Cond.methodLink RX0 74 yX0_gripOf, Cond.instanceMethod yX0_gripOf, Cond.selects RX0 yX0_gripOf yX0_gripOf, Cond.code yX0_gripOf cX0_gripOf 5 (some .int), Cond.methodLink RX0 104 yX0_asBrother, Cond.instanceMethod yX0_asBrother, Cond.selects RX0 yX0_asBrother yX0_asBrother, Cond.code yX0_asBrother cX0_asBrother 3 (some .int), Cond.static yX5_isUnder, Cond.code yX5_isUnder cX5_isUnder 4 (some .boolean), Cond.fieldLink RX5 227 "WallsOfPrisoners" "KIND_ABOVE" "[I", Cond.methodLink RL 26 yX6_told, Cond.methodLink RL 27 yX5_grips, Cond.instanceMethod yX5_grips, Cond.selects RX5 yX5_grips yX5_grips, Cond.code yX5_grips cX5_grips 3 (some .int), Cond.methodLink RX5 105 yX0_gripOf, Cond.methodLink RL 30 yX6_grips, Cond.instanceMethod yX6_grips, Cond.selects RX6 yX6_grips yX6_grips, Cond.code yX6_grips cX6_grips 3 (some .int), Cond.methodLink RX6 253 yX6_areTwo]
def wsL_law_r22 : List Cond := [Cond.instanceMethod yX6_areTwo, Cond.selects RX6 yX6_areTwo yX6_areTwo, Cond.code yX6_areTwo cX6_areTwo 3 (some .boolean), Cond.methodLink RL 31 yX5_hands, Cond.instanceMethod yX5_hands, Cond.selects RX5 yX5_hands yX5_hands, Cond.code yX5_hands cX5_hands 3 (some .int), Cond.methodLink RX5 108 yX0_handedOn, Cond.instanceMethod yX0_handedOn, Cond.selects RX0 yX0_handedOn yX0_handedOn, Cond.code yX0_handedOn cX0_handedOn 4 (some .int), Cond.methodLink RL 34 yX6_hands, Cond.instanceMethod yX6_hands, Cond.selects RX6 yX6_hands yX6_hands, Cond.code yX6_hands cX6_hands 3 (some .int), Cond.methodLink RX6 259 yX6_handsOf, Cond.instanceMethod yX6_handsOf, Cond.selects RX6 yX6_handsOf yX6_handsOf, Cond.code yX6_handsOf cX6_handsOf 5 (some .int), Cond.methodLink RL 35 yX5_feed, Cond.instanceMethod yX5_feed, Cond.selects RX5 yX5_feed yX5_feed, Cond.code yX5_feed cX5_feed 2 (some .int), Cond.fieldLink RX5 111 "WallsOfPrisoners$Reader" "size" "I"]
def wsL_law_r23 : List Cond := [Cond.methodLink RL 39 yX6_feed, Cond.instanceMethod yX6_feed, Cond.selects RX6 yX6_feed yX6_feed, Cond.code yX6_feed cX6_feed 2 (some .int), Cond.constantLong RX6 128 (255), Cond.fieldLink RX6 130 "WallsOfPrisonersModel" "taped" "I", Cond.methodLink RL 40 yX5_text, Cond.instanceMethod yX5_text, Cond.selects RX5 yX5_text yX5_text, Cond.code yX5_text cX5_text 2 (some .int), Cond.fieldLink RX5 115 "WallsOfPrisoners$Texts" "many" "I", Cond.methodLink RL 44 yX6_text, Cond.instanceMethod yX6_text, Cond.selects RX6 yX6_text yX6_text, Cond.code yX6_text cX6_text 2 (some .int), Cond.methodLink RL 45 yX5_force, Cond.instanceMethod yX5_force, Cond.selects RX5 yX5_force yX5_force, Cond.code yX5_force cX5_force 3 (some .int), Cond.fieldLink RX5 118 "WallsOfPrisoners$Marsh" "rule" "I", Cond.methodLink RL 48 yX6_force, Cond.instanceMethod yX6_force, Cond.selects RX6 yX6_force yX6_force, Cond.code yX6_force cX6_force 3 (some .int)]
def wsL_law_r24 : List Cond := [Cond.methodLink RL 49 yX5_out, Cond.instanceMethod yX5_out, Cond.selects RX5 yX5_out yX5_out, Cond.code yX5_out cX5_out 3 (some .int), Cond.methodLink RX5 121 yX0_leave, Cond.instanceMethod yX0_leave, Cond.selects RX0 yX0_leave yX0_leave, Cond.code yX0_leave cX0_leave 3 none, Cond.methodLink RL 52 yX6_out, Cond.instanceMethod yX6_out, Cond.selects RX6 yX6_out yX6_out, Cond.code yX6_out cX6_out 3 (some .int), Cond.methodLink RX6 271 yX6_closesUp, Cond.instanceMethod yX6_closesUp, Cond.selects RX6 yX6_closesUp yX6_closesUp, Cond.code yX6_closesUp cX6_closesUp 3 none, Cond.methodLink RL 53 yX5_into, Cond.instanceMethod yX5_into, Cond.selects RX5 yX5_into yX5_into, Cond.code yX5_into cX5_into 3 (some .int), Cond.fieldLink RX5 125 "WallsOfPrisoners$Marsh" "standing" "I", Cond.methodLink RX5 128 yX0_enter, Cond.methodLink RL 56 yX6_into, Cond.instanceMethod yX6_into]
def wsL_law_r25 : List Cond := [Cond.selects RX6 yX6_into yX6_into, Cond.code yX6_into cX6_into 3 (some .int), Cond.methodLink RX6 275 yX6_stands, Cond.instanceMethod yX6_stands, Cond.selects RX6 yX6_stands yX6_stands, Cond.code yX6_stands cX6_stands 4 none, Cond.methodLink RL 57 yX5_swap, Cond.instanceMethod yX5_swap, Cond.selects RX5 yX5_swap yX5_swap, Cond.code yX5_swap cX5_swap 5 (some .int), Cond.methodLink RX5 132 yX0_exchange, Cond.instanceMethod yX0_exchange, Cond.selects RX0 yX0_exchange yX0_exchange, Cond.code yX0_exchange cX0_exchange 5 none, Cond.methodLink RX5 135 yX0_weakest, Cond.instanceMethod yX0_weakest, Cond.selects RX0 yX0_weakest yX0_weakest, Cond.code yX0_weakest cX0_weakest 5 (some .int), Cond.methodLink RX0 80 yX0_holds, Cond.methodLink RX0 84 yX0_holdFrom, Cond.methodLink RL 60 yX6_swap, Cond.instanceMethod yX6_swap, Cond.selects RX6 yX6_swap yX6_swap, Cond.code yX6_swap cX6_swap 3 (some .int)]
def wsL_law_r26 : List Cond := [Cond.methodLink RX6 279 yX6_change, Cond.instanceMethod yX6_change, Cond.selects RX6 yX6_change yX6_change, Cond.code yX6_change cX6_change 4 none, Cond.methodLink RX6 262 yX6_weakest, Cond.instanceMethod yX6_weakest, Cond.selects RX6 yX6_weakest yX6_weakest, Cond.code yX6_weakest cX6_weakest 4 (some .int), Cond.methodLink RL 61 yX5_hour, Cond.instanceMethod yX5_hour, Cond.selects RX5 yX5_hour yX5_hour, Cond.code yX5_hour cX5_hour 1 (some .int), Cond.fieldLink RX5 138 "WallsOfPrisoners$Marsh" "hour" "I", Cond.methodLink RX5 141 yX0_passHour, Cond.instanceMethod yX0_passHour, Cond.selects RX0 yX0_passHour yX0_passHour, Cond.code yX0_passHour cX0_passHour 3 none, Cond.methodLink RX0 65 Lib.Math.max.name, Cond.static Lib.Math.max.name, Cond.code Lib.Math.max.name Lib.Math.max.code 2 (some .int), Cond.methodLink RX0 62 yX0_spentBy, Cond.methodLink RL 64 yX6_hour, Cond.instanceMethod yX6_hour, Cond.selects RX6 yX6_hour yX6_hour]
def wsL_law_r27 : List Cond := [Cond.code yX6_hour cX6_hour 1 (some .int), Cond.methodLink RX6 282 yX6_passes, Cond.instanceMethod yX6_passes, Cond.selects RX6 yX6_passes yX6_passes, Cond.code yX6_passes cX6_passes 3 none, Cond.methodLink RL 65 yX5_wall, Cond.instanceMethod yX5_wall, Cond.selects RX5 yX5_wall yX5_wall, Cond.code yX5_wall cX5_wall 2 (some .int), Cond.methodLink RX5 144 yX0_gates, Cond.instanceMethod yX0_gates, Cond.selects RX0 yX0_gates yX0_gates, Cond.code yX0_gates cX0_gates 4 (some .int), Cond.methodLink RX5 147 yX0_firstGate, Cond.instanceMethod yX0_firstGate, Cond.selects RX0 yX0_firstGate yX0_firstGate, Cond.code yX0_firstGate cX0_firstGate 3 (some .int), Cond.methodLink RL 68 yX6_wall, Cond.instanceMethod yX6_wall, Cond.selects RX6 yX6_wall yX6_wall, Cond.code yX6_wall cX6_wall 2 (some .int), Cond.methodLink RX6 265 yX6_gates, Cond.instanceMethod yX6_gates, Cond.selects RX6 yX6_gates yX6_gates]
def wsL_law_r28 : List Cond := [Cond.code yX6_gates cX6_gates 3 (some .int), Cond.methodLink RX6 268 yX6_firstGate, Cond.instanceMethod yX6_firstGate, Cond.selects RX6 yX6_firstGate yX6_firstGate, Cond.code yX6_firstGate cX6_firstGate 3 (some .int), Cond.methodLink RL 69 yX5_sneeze, Cond.instanceMethod yX5_sneeze, Cond.selects RX5 yX5_sneeze yX5_sneeze, Cond.code yX5_sneeze cX5_sneeze 9 (some .int), Cond.methodLink RX5 150 yX0_placeBehind, Cond.methodLink RL 72 yX6_sneeze, Cond.instanceMethod yX6_sneeze, Cond.selects RX6 yX6_sneeze yX6_sneeze, Cond.code yX6_sneeze cX6_sneeze 9 (some .int), Cond.constantLong RX6 285 (2), Cond.methodLink RL 73 yX5_run, Cond.instanceMethod yX5_run, Cond.selects RX5 yX5_run yX5_run, Cond.code yX5_run cX5_run 6 (some .int), Cond.methodLink RX5 153 yX0_takeFrom, Cond.instanceMethod yX0_takeFrom, Cond.selects RX0 yX0_takeFrom yX0_takeFrom, Cond.code yX0_takeFrom cX0_takeFrom 2 none, Cond.methodLink RX0 28 arraycopyName]
def wsL_law_r29 : List Cond := [Cond.native arraycopyName, Cond.static arraycopyName, Cond.initialized "java/lang/System", Cond.methodLink RL 76 yX6_run, Cond.instanceMethod yX6_run, Cond.selects RX6 yX6_run yX6_run, Cond.code yX6_run cX6_run 4 (some .int), Cond.constantLong RX6 287 (40), Cond.constantLong RX6 289 (15), Cond.methodLink RX6 291 yX6_laysAside, Cond.instanceMethod yX6_laysAside, Cond.selects RX6 yX6_laysAside yX6_laysAside, Cond.code yX6_laysAside cX6_laysAside 2 none, Cond.methodLink RX6 294 yX6_laysBack, Cond.instanceMethod yX6_laysBack, Cond.selects RX6 yX6_laysBack yX6_laysBack, Cond.code yX6_laysBack cX6_laysBack 2 none, Cond.methodLink RL 77 yX5_opens, Cond.instanceMethod yX5_opens, Cond.selects RX5 yX5_opens yX5_opens, Cond.code yX5_opens cX5_opens 2 (some .int), Cond.methodLink RL 80 yX6_opens, Cond.instanceMethod yX6_opens, Cond.selects RX6 yX6_opens yX6_opens]
def wsL_law_r30 : List Cond := [Cond.code yX6_opens cX6_opens 2 (some .int), Cond.methodLink RL 81 yX5_order, Cond.instanceMethod yX5_order, Cond.selects RX5 yX5_order yX5_order, Cond.code yX5_order cX5_order 2 (some .int), Cond.fieldLink RX5 166 "WallsOfPrisoners$Orders" "bestHard" "I", Cond.methodLink RX5 157 yX1_look, Cond.instanceMethod yX1_look, Cond.selects RX1 yX1_look yX1_look, Cond.code yX1_look cX1_look 5 none, Cond.fieldLink RX1 24 "WallsOfPrisoners$Marsh" "standing" "I", Cond.methodLink RX1 30 Lib.Math.min.name, Cond.fieldLink RX1 36 "WallsOfPrisoners$Orders" "standing" "I", Cond.fieldLink RX1 37 "WallsOfPrisoners$Marsh" "ring" "[I", Cond.methodLink RX1 38 arraycopyName, Cond.methodLink RX1 44 yX0_gripOf, Cond.methodLink RX5 160 yX1_seekBest, Cond.instanceMethod yX1_seekBest, Cond.selects RX1 yX1_seekBest yX1_seekBest, Cond.code yX1_seekBest cX1_seekBest 3 none, Cond.fieldLink RX1 50 "WallsOfPrisoners$Orders" "bestHard" "I", Cond.methodLink RX1 53 yX1_seekFrom, Cond.instanceMethod yX1_seekFrom, Cond.selects RX1 yX1_seekFrom yX1_seekFrom]
def wsL_law_r31 : List Cond := [Cond.code yX1_seekFrom cX1_seekFrom 6 none, Cond.methodLink RX1 47 yX1_between, Cond.instanceMethod yX1_between, Cond.selects RX1 yX1_between yX1_between, Cond.code yX1_between cX1_between 4 (some .int), Cond.methodLink RX5 163 yX1_bestDigits, Cond.instanceMethod yX1_bestDigits, Cond.selects RX1 yX1_bestDigits yX1_bestDigits, Cond.code yX1_bestDigits cX1_bestDigits 3 (some .int), Cond.methodLink RL 84 yX6_order, Cond.instanceMethod yX6_order, Cond.selects RX6 yX6_order yX6_order, Cond.code yX6_order cX6_order 4 (some .int), Cond.fieldLink RX6 297 "WallsOfPrisonersModel" "bestRow" "I", Cond.fieldLink RX6 300 "WallsOfPrisonersModel" "bestHard" "I", Cond.methodLink RX6 306 yX6_orders, Cond.instanceMethod yX6_orders, Cond.selects RX6 yX6_orders yX6_orders, Cond.code yX6_orders cX6_orders 4 none, Cond.methodLink RX6 303 yX6_digitsOf, Cond.instanceMethod yX6_digitsOf, Cond.selects RX6 yX6_digitsOf yX6_digitsOf, Cond.code yX6_digitsOf cX6_digitsOf 3 (some .int), Cond.methodLink RL 85 yX5_let]
def wsL_law_r32 : List Cond := [Cond.instanceMethod yX5_let, Cond.selects RX5 yX5_let yX5_let, Cond.code yX5_let cX5_let 7 (some .int), Cond.fieldLink RX5 169 "WallsOfPrisoners$Marsh" "men" "I", Cond.methodLink RL 88 yX6_let, Cond.instanceMethod yX6_let, Cond.selects RX6 yX6_let yX6_let, Cond.code yX6_let cX6_let 7 (some .int), Cond.methodLink RL 89 yX5_letsIn, Cond.instanceMethod yX5_letsIn, Cond.selects RX5 yX5_letsIn yX5_letsIn, Cond.code yX5_letsIn cX5_letsIn 7 (some .int), Cond.methodLink RL 92 yX6_letsIn, Cond.instanceMethod yX6_letsIn, Cond.selects RX6 yX6_letsIn yX6_letsIn, Cond.code yX6_letsIn cX6_letsIn 8 (some .int), Cond.methodLink RL 93 yX5_swaps, Cond.instanceMethod yX5_swaps, Cond.selects RX5 yX5_swaps yX5_swaps, Cond.code yX5_swaps cX5_swaps 1 (some .int), Cond.methodLink RX5 172 yX1_fewestChanges, Cond.instanceMethod yX1_fewestChanges, Cond.selects RX1 yX1_fewestChanges yX1_fewestChanges, Cond.code yX1_fewestChanges cX1_fewestChanges 2 (some .int)]
def wsL_law_r33 : List Cond := [Cond.methodLink RX1 57 yX1_closesBy, Cond.instanceMethod yX1_closesBy, Cond.selects RX1 yX1_closesBy yX1_closesBy, Cond.code yX1_closesBy cX1_closesBy 5 (some .boolean), Cond.methodLink RX1 61 yX1_weakestNow, Cond.instanceMethod yX1_weakestNow, Cond.selects RX1 yX1_weakestNow yX1_weakestNow, Cond.code yX1_weakestNow cX1_weakestNow 3 (some .int), Cond.methodLink RX1 65 yX1_change, Cond.instanceMethod yX1_change, Cond.selects RX1 yX1_change yX1_change, Cond.code yX1_change cX1_change 4 none, Cond.methodLink RL 96 yX6_swaps, Cond.instanceMethod yX6_swaps, Cond.selects RX6 yX6_swaps yX6_swaps, Cond.code yX6_swaps cX6_swaps 2 (some .int), Cond.methodLink RX6 309 yX6_shutBy, Cond.instanceMethod yX6_shutBy, Cond.selects RX6 yX6_shutBy yX6_shutBy, Cond.code yX6_shutBy cX6_shutBy 4 (some .boolean), Cond.methodLink RL 97 yX5_mean, Cond.instanceMethod yX5_mean, Cond.selects RX5 yX5_mean yX5_mean, Cond.code yX5_mean cX5_mean 4 (some .long)]
def wsL_law_r34 : List Cond := [Cond.constantLong RX5 175 (-4611686018427387904), Cond.methodLink RX5 177 yX5_lowestTerm, Cond.static yX5_lowestTerm, Cond.code yX5_lowestTerm cX5_lowestTerm 7 (some .long), Cond.methodLink RL 101 yX6_mean, Cond.instanceMethod yX6_mean, Cond.selects RX6 yX6_mean yX6_mean, Cond.code yX6_mean cX6_mean 4 (some .long), Cond.constantLong RX6 312 (-4611686018427387904), Cond.methodLink RX6 314 yX6_lowest, Cond.static yX6_lowest, Cond.code yX6_lowest cX6_lowest 11 (some .long), Cond.methodLink RL 102 yX5_tells, Cond.instanceMethod yX5_tells, Cond.selects RX5 yX5_tells yX5_tells, Cond.code yX5_tells cX5_tells 5 (some .int), Cond.fieldLink RX5 184 "WallsOfPrisoners$Sheet" "sort" "I", Cond.fieldLink RX5 187 "WallsOfPrisoners$Sheet" "size" "I", Cond.methodLink RX5 181 yX5_isSheet, Cond.static yX5_isSheet, Cond.code yX5_isSheet cX5_isSheet 1 (some .boolean), Cond.methodLink RX5 188 yX0_firstUnlike, Cond.instanceMethod yX0_firstUnlike, Cond.selects RX0 yX0_firstUnlike yX0_firstUnlike]
def wsL_law_r35 : List Cond := [Cond.code yX0_firstUnlike cX0_firstUnlike 4 (some .int), Cond.fieldLink RX0 87 "WallsOfPrisoners$Sheet" "size" "I", Cond.fieldLink RX0 92 "WallsOfPrisoners$Sheet" "row" "[I", Cond.methodLink RX5 192 yX5_readBack, Cond.instanceMethod yX5_readBack, Cond.selects RX5 yX5_readBack yX5_readBack, Cond.code yX5_readBack cX5_readBack 10 (some .int), Cond.methodLink RX5 230 yX5_traitReadBack, Cond.static yX5_traitReadBack, Cond.code yX5_traitReadBack cX5_traitReadBack 1 (some .int), Cond.methodLink RL 105 yX6_tells, Cond.instanceMethod yX6_tells, Cond.selects RX6 yX6_tells yX6_tells, Cond.code yX6_tells cX6_tells 11 (some .int), Cond.constantLong RX6 321 (7), Cond.methodLink RX6 318 yX6_isSheet, Cond.static yX6_isSheet, Cond.code yX6_isSheet cX6_isSheet 1 (some .boolean), Cond.methodLink RX6 323 yX6_firstOther, Cond.instanceMethod yX6_firstOther, Cond.selects RX6 yX6_firstOther yX6_firstOther, Cond.code yX6_firstOther cX6_firstOther 3 (some .int), Cond.methodLink RL 106 yX5_film, Cond.instanceMethod yX5_film]
def wsL_law_r36 : List Cond := [Cond.selects RX5 yX5_film yX5_film, Cond.code yX5_film cX5_film 5 (some .int), Cond.methodLink RX5 196 yX3_become, Cond.instanceMethod yX3_become, Cond.selects RX3 yX3_become yX3_become, Cond.code yX3_become cX3_become 4 none, Cond.fieldLink RX3 19 "WallsOfPrisoners$Sheet" "size" "I", Cond.methodLink RX5 199 yX3_put, Cond.instanceMethod yX3_put, Cond.selects RX3 yX3_put yX3_put, Cond.code yX3_put cX3_put 3 none, Cond.methodLink RX3 22 yX3_has, Cond.instanceMethod yX3_has, Cond.selects RX3 yX3_has yX3_has, Cond.code yX3_has cX3_has 2 (some .boolean), Cond.methodLink RL 109 yX6_film, Cond.instanceMethod yX6_film, Cond.selects RX6 yX6_film yX6_film, Cond.code yX6_film cX6_film 4 (some .int), Cond.methodLink RX6 326 yX6_sheet, Cond.instanceMethod yX6_sheet, Cond.selects RX6 yX6_sheet yX6_sheet, Cond.code yX6_sheet cX6_sheet 5 (some .int), Cond.constantLong RX6 345 (-1)]
def wsL_law_r37 : List Cond := [Cond.methodLink RL 110 yX5_drawn, Cond.instanceMethod yX5_drawn, Cond.selects RX5 yX5_drawn yX5_drawn, Cond.code yX5_drawn cX5_drawn 3 (some .int), Cond.methodLink RX5 202 yX1_weakestDrawn, Cond.instanceMethod yX1_weakestDrawn, Cond.selects RX1 yX1_weakestDrawn yX1_weakestDrawn, Cond.code yX1_weakestDrawn cX1_weakestDrawn 6 (some .int), Cond.constant RX1 69 (1103515245), Cond.methodLink RL 113 yX6_drawn, Cond.instanceMethod yX6_drawn, Cond.selects RX6 yX6_drawn yX6_drawn, Cond.code yX6_drawn cX6_drawn 3 (some .int), Cond.methodLink RX6 330 yX6_weakestDrawn, Cond.instanceMethod yX6_weakestDrawn, Cond.selects RX6 yX6_weakestDrawn yX6_weakestDrawn, Cond.code yX6_weakestDrawn cX6_weakestDrawn 7 (some .int), Cond.constant RX6 329 (1103515245), Cond.methodLink RL 114 yX5_chance, Cond.instanceMethod yX5_chance, Cond.selects RX5 yX5_chance yX5_chance, Cond.code yX5_chance cX5_chance 7 (some .long), Cond.methodLink RL 118 yX6_chance, Cond.instanceMethod yX6_chance]
def wsL_law_r38 : List Cond := [Cond.selects RX6 yX6_chance yX6_chance, Cond.code yX6_chance cX6_chance 8 (some .long), Cond.methodLink RL 119 yX5_image, Cond.instanceMethod yX5_image, Cond.selects RX5 yX5_image yX5_image, Cond.code yX5_image cX5_image 1 (some .int), Cond.fieldLink RX5 205 "WallsOfPrisoners" "isKept" "Z", Cond.methodLink RL 122 yX6_image, Cond.instanceMethod yX6_image, Cond.selects RX6 yX6_image yX6_image, Cond.code yX6_image cX6_image 2 (some .int), Cond.fieldLink RX6 333 "WallsOfPrisonersModel" "sizeKept" "I", Cond.fieldLink RX6 336 "WallsOfPrisonersModel" "hourKept" "I", Cond.fieldLink RX6 339 "WallsOfPrisonersModel" "coldKept" "I", Cond.fieldLink RX6 342 "WallsOfPrisonersModel" "ruleKept" "I", Cond.methodLink RL 123 yX5_back, Cond.instanceMethod yX5_back, Cond.selects RX5 yX5_back yX5_back, Cond.code yX5_back cX5_back 1 (some .int), Cond.methodLink RL 126 yX6_back, Cond.instanceMethod yX6_back, Cond.selects RX6 yX6_back yX6_back, Cond.code yX6_back cX6_back 2 (some .int), Cond.methodLink RL 127 yX5_count]
def wsL_law_r39 : List Cond := [Cond.instanceMethod yX5_count, Cond.selects RX5 yX5_count yX5_count, Cond.code yX5_count cX5_count 2 (some .int), Cond.methodLink RL 130 yX6_count, Cond.instanceMethod yX6_count, Cond.selects RX6 yX6_count yX6_count, Cond.code yX6_count cX6_count 2 (some .int), Cond.methodLink RL 131 yX5_sheet, Cond.instanceMethod yX5_sheet, Cond.selects RX5 yX5_sheet yX5_sheet, Cond.code yX5_sheet cX5_sheet 4 (some .int), Cond.methodLink RL 134 yX6_sheet, Cond.methodLink RL 135 yX5_cell, Cond.instanceMethod yX5_cell, Cond.selects RX5 yX5_cell yX5_cell, Cond.code yX5_cell cX5_cell 5 (some .int), Cond.methodLink RX5 209 yX3_has, Cond.methodLink RL 138 yX6_cell, Cond.instanceMethod yX6_cell, Cond.selects RX6 yX6_cell yX6_cell, Cond.code yX6_cell cX6_cell 4 (some .int), Cond.methodLink RL 139 yX5_copy, Cond.instanceMethod yX5_copy, Cond.selects RX5 yX5_copy yX5_copy]
def wsL_law_r40 : List Cond := [Cond.code yX5_copy cX5_copy 8 (some .int), Cond.fieldLink RX5 214 "WallsOfPrisoners$Sheet" "row" "[I", Cond.methodLink RX5 218 arraycopyName, Cond.methodLink RX5 210 yX3_hasRun, Cond.instanceMethod yX3_hasRun, Cond.selects RX3 yX3_hasRun yX3_hasRun, Cond.code yX3_hasRun cX3_hasRun 3 (some .boolean), Cond.methodLink RL 143 yX6_copy, Cond.instanceMethod yX6_copy, Cond.selects RX6 yX6_copy yX6_copy, Cond.code yX6_copy cX6_copy 9 (some .int), Cond.methodLink RL 144 yX5_chain, Cond.instanceMethod yX5_chain, Cond.selects RX5 yX5_chain yX5_chain, Cond.code yX5_chain cX5_chain 9 (some .int), Cond.methodLink RL 148 yX6_chain, Cond.instanceMethod yX6_chain, Cond.selects RX6 yX6_chain yX6_chain, Cond.code yX6_chain cX6_chain 8 (some .int), Cond.constantLong RX6 347 (6), Cond.methodLink RX6 349 yX6_man, Cond.methodLink RL 149 yX5_taken, Cond.instanceMethod yX5_taken, Cond.selects RX5 yX5_taken yX5_taken]
def wsL_law_r41 : List Cond := [Cond.code yX5_taken cX5_taken 3 (some .int), Cond.methodLink RX5 224 yX5_isUnder, Cond.methodLink RL 152 yX6_taken, Cond.instanceMethod yX6_taken, Cond.selects RX6 yX6_taken yX6_taken, Cond.code yX6_taken cX6_taken 4 (some .int), Cond.methodLink RX6 352 yX6_over, Cond.static yX6_over, Cond.code yX6_over cX6_over 1 (some .int)]
def wsL_law : List Cond := (wsL_law_r1 ++ (wsL_law_r2 ++ (wsL_law_r3 ++ (wsL_law_r4 ++ (wsL_law_r5 ++ (wsL_law_r6 ++ (wsL_law_r7 ++ (wsL_law_r8 ++ (wsL_law_r9 ++ (wsL_law_r10 ++ (wsL_law_r11 ++ (wsL_law_r12 ++ (wsL_law_r13 ++ (wsL_law_r14 ++ (wsL_law_r15 ++ (wsL_law_r16 ++ (wsL_law_r17 ++ (wsL_law_r18 ++ (wsL_law_r19 ++ (wsL_law_r20 ++ (wsL_law_r21 ++ (wsL_law_r22 ++ (wsL_law_r23 ++ (wsL_law_r24 ++ (wsL_law_r25 ++ (wsL_law_r26 ++ (wsL_law_r27 ++ (wsL_law_r28 ++ (wsL_law_r29 ++ (wsL_law_r30 ++ (wsL_law_r31 ++ (wsL_law_r32 ++ (wsL_law_r33 ++ (wsL_law_r34 ++ (wsL_law_r35 ++ (wsL_law_r36 ++ (wsL_law_r37 ++ (wsL_law_r38 ++ (wsL_law_r39 ++ (wsL_law_r40 ++ wsL_law_r41)))))))))))))))))))))))))))))))))))))))) ++ wsX50 ++ wsX60 ++ wsX40 ++ wsX20 ++ wsX00 ++ wsX10 ++ wsX30 ++ ([] : List Cond)
theorem inlX0 : ∀ w ∈ wsX00, w ∈ wsL_law := fun _ h => List.mem_append_left _ (List.mem_append_left _ (List.mem_append_left _ (List.mem_append_right _ h)))
theorem inlX1 : ∀ w ∈ wsX10, w ∈ wsL_law := fun _ h => List.mem_append_left _ (List.mem_append_left _ (List.mem_append_right _ h))
theorem inlX2 : ∀ w ∈ wsX20, w ∈ wsL_law := fun _ h => List.mem_append_left _ (List.mem_append_left _ (List.mem_append_left _ (List.mem_append_left _ (List.mem_append_right _ h))))
theorem inlX3 : ∀ w ∈ wsX30, w ∈ wsL_law := fun _ h => List.mem_append_left _ (List.mem_append_right _ h)
theorem inlX4 : ∀ w ∈ wsX40, w ∈ wsL_law := fun _ h => List.mem_append_left _ (List.mem_append_left _ (List.mem_append_left _ (List.mem_append_left _ (List.mem_append_left _ (List.mem_append_right _ h)))))
theorem inlX5 : ∀ w ∈ wsX50, w ∈ wsL_law := fun _ h => List.mem_append_left _ (List.mem_append_left _ (List.mem_append_left _ (List.mem_append_left _ (List.mem_append_left _ (List.mem_append_left _ (List.mem_append_left _ (List.mem_append_right _ h)))))))
theorem inlX6 : ∀ w ∈ wsX60, w ∈ wsL_law := fun _ h => List.mem_append_left _ (List.mem_append_left _ (List.mem_append_left _ (List.mem_append_left _ (List.mem_append_left _ (List.mem_append_left _ (List.mem_append_right _ h))))))
abbrev vwCl : List vw_C := [(RX0, TX0, 10), (RX1, TX1, 6), (RX2, TX2, 7), (RX3, TX3, 3), (RX4, TX4, 5), (RX5, TX5, 8), (RX6, TX6, 44)]
end
section
theorem z_pl_in {big : List Cond} (ws : List Cond) (ps : List Nat) (hp : ws = ps.filterMap (fun i => big[i]?)) : ∀ w ∈ ws, w ∈ big := by
  intro w hw
  rw [hp] at hw
  obtain ⟨i, -, hi⟩ := List.mem_filterMap.mp hw
  exact List.mem_of_getElem? hi
theorem z_all_app {p : Cond → Bool} {a b : List Cond} (ha : a.all p = true) (hb : b.all p = true) : (a ++ b).all p = true := by rw [List.all_append, ha, hb]; rfl
theorem z_in_app {a b big : List Cond} (ha : ∀ w ∈ a, w ∈ big) (hb : ∀ w ∈ b, w ∈ big) : ∀ w ∈ a ++ b, w ∈ big := fun w h => (List.mem_append.mp h).elim (ha w) (hb w)
set_option maxRecDepth 20000 in
theorem zr1 : ∀ w ∈ wsL_law_r1, w ∈ lw_tbl := z_pl_in _ [78, 79, 65, 750, 751, 75, 80, 81, 82, 83, 84, 85, 86, 87, 66, 387, 111, 112, 67, 388, 140, 141, 68, 389] (by decide +kernel)
theorem zg1 : wsL_law_r1.all goodWord = true := by decide +kernel
set_option maxRecDepth 20000 in
theorem zr2 : ∀ w ∈ wsL_law_r2, w ∈ lw_tbl := z_pl_in _ [390, 391, 184, 185, 69, 392, 210, 393, 212, 70, 89, 90, 91, 110, 92, 93, 94, 113, 114, 115, 116, 118, 117, 142] (by decide +kernel)
theorem zg2 : wsL_law_r2.all goodWord = true := by decide +kernel
set_option maxRecDepth 20000 in
theorem zr3 : ∀ w ∈ wsL_law_r3, w ∈ lw_tbl := z_pl_in _ [143, 144, 145, 147, 148, 149, 150, 146, 187, 188, 189, 190, 191, 192, 193, 214, 215, 216, 217, 220, 233, 234, 235, 71] (by decide +kernel)
theorem zg3 : wsL_law_r3.all goodWord = true := by decide +kernel
set_option maxRecDepth 20000 in
theorem zr4 : ∀ w ∈ wsL_law_r4, w ∈ lw_tbl := z_pl_in _ [236, 1231, 237, 238, 239, 240, 241, 1232, 243, 244, 245, 246, 247, 248, 249, 250, 251, 252, 72, 253, 254, 255, 256, 257] (by decide +kernel)
theorem zg4 : wsL_law_r4.all goodWord = true := by decide +kernel
set_option maxRecDepth 20000 in
theorem zr5 : ∀ w ∈ wsL_law_r5, w ∈ lw_tbl := z_pl_in _ [259, 260, 73, 261, 262, 263, 74, 264, 265, 266, 267, 268, 269, 270, 271, 272, 273, 274, 275, 277, 279, 281, 282, 283] (by decide +kernel)
theorem zg5 : wsL_law_r5.all goodWord = true := by decide +kernel
set_option maxRecDepth 20000 in
theorem zr6 : ∀ w ∈ wsL_law_r6, w ∈ lw_tbl := z_pl_in _ [284, 119, 285, 286, 287, 288, 121, 123, 96, 122, 289, 290, 291, 292, 95, 98, 293, 295, 0, 296, 297, 299, 1, 300] (by decide +kernel)
theorem zg6 : wsL_law_r6.all goodWord = true := by decide +kernel
set_option maxRecDepth 20000 in
theorem zr7 : ∀ w ∈ wsL_law_r7, w ∈ lw_tbl := z_pl_in _ [301, 302, 303, 304, 306, 2, 307, 124, 308, 309, 310, 311, 313, 3, 314, 315, 316, 317, 330, 332, 4, 333, 334, 335] (by decide +kernel)
theorem zg7 : wsL_law_r7.all goodWord = true := by decide +kernel
set_option maxRecDepth 20000 in
theorem zr8 : ∀ w ∈ wsL_law_r8, w ∈ lw_tbl := z_pl_in _ [336, 337, 338, 339, 341, 5, 342, 343, 345, 6, 346, 347, 349, 7, 371, 372, 373, 374, 350, 351, 353, 8, 382, 358] (by decide +kernel)
theorem zg8 : wsL_law_r8.all goodWord = true := by decide +kernel
set_option maxRecDepth 20000 in
theorem zr9 : ∀ w ∈ wsL_law_r9, w ∈ lw_tbl := z_pl_in _ [359, 361, 10, 354, 355, 357, 9, 378, 367, 369, 12, 370, 375, 377, 13, 379, 381, 14, 362, 363, 365, 11, 366, 383] (by decide +kernel)
theorem zg9 : wsL_law_r9.all goodWord = true := by decide +kernel
set_option maxRecDepth 20000 in
theorem zr10 : ∀ w ∈ wsL_law_r10, w ∈ lw_tbl := z_pl_in _ [384, 385, 386, 752, 753, 754, 755, 760, 761, 764, 768, 770, 787, 788, 789, 792, 793, 794, 892, 799, 800, 801, 802, 762] (by decide +kernel)
theorem zg10 : wsL_law_r10.all goodWord = true := by decide +kernel
set_option maxRecDepth 20000 in
theorem zr11 : ∀ w ∈ wsL_law_r11, w ∈ lw_tbl := z_pl_in _ [756, 758, 22, 759, 413, 414, 415, 416, 417, 418, 419, 420, 421, 422, 423, 152, 424, 425, 426, 427, 157, 159, 428, 429] (by decide +kernel)
theorem zg11 : wsL_law_r11.all goodWord = true := by decide +kernel
set_option maxRecDepth 20000 in
theorem zr12 : ∀ w ∈ wsL_law_r12, w ∈ lw_tbl := z_pl_in _ [430, 431, 432, 160, 893, 894, 895, 896, 897, 898, 899, 900, 901, 903, 23, 904, 771, 905, 907, 24, 908, 769, 909, 911] (by decide +kernel)
theorem zg12 : wsL_law_r12.all goodWord = true := by decide +kernel
set_option maxRecDepth 20000 in
theorem zr13 : ∀ w ∈ wsL_law_r13, w ∈ lw_tbl := z_pl_in _ [25, 912, 913, 914, 915, 916, 917, 918, 919, 920, 766, 767, 921, 923, 26, 924, 925, 927, 27, 928, 929, 931, 28, 932] (by decide +kernel)
theorem zg13 : wsL_law_r13.all goodWord = true := by decide +kernel
set_option maxRecDepth 20000 in
theorem zr14 : ∀ w ∈ wsL_law_r14, w ∈ lw_tbl := z_pl_in _ [772, 773, 774, 775, 776, 777, 763, 933, 935, 29, 936, 778, 779, 780, 784, 785, 781, 937, 939, 30, 940, 782, 945, 946] (by decide +kernel)
theorem zg14 : wsL_law_r14.all goodWord = true := by decide +kernel
set_option maxRecDepth 20000 in
theorem zr15 : ∀ w ∈ wsL_law_r15, w ∈ lw_tbl := z_pl_in _ [947, 948, 783, 949, 941, 943, 31, 944, 950, 952, 32, 953, 954, 956, 33, 957, 958, 960, 34, 961, 962, 964, 35, 965] (by decide +kernel)
theorem zg15 : wsL_law_r15.all goodWord = true := by decide +kernel
set_option maxRecDepth 20000 in
theorem zr16 : ∀ w ∈ wsL_law_r16, w ∈ lw_tbl := z_pl_in _ [786, 966, 968, 36, 969, 970, 972, 37, 985, 1002, 986, 988, 41, 994, 996, 43, 997, 993, 978, 980, 39, 981, 990, 992] (by decide +kernel)
theorem zg16 : wsL_law_r16.all goodWord = true := by decide +kernel
set_option maxRecDepth 20000 in
theorem zr17 : ∀ w ∈ wsL_law_r17, w ∈ lw_tbl := z_pl_in _ [42, 998, 1000, 44, 1001, 973, 974, 976, 38, 977, 1003, 982, 984, 40, 989, 1004, 1005, 1006, 1007, 1009, 45, 1010, 1011, 1013] (by decide +kernel)
theorem zg17 : wsL_law_r17.all goodWord = true := by decide +kernel
set_option maxRecDepth 20000 in
theorem zr18 : ∀ w ∈ wsL_law_r18, w ∈ lw_tbl := z_pl_in _ [46, 1014, 1015, 1017, 47, 1018, 433, 434, 435, 436, 437, 438, 439, 440, 155, 441, 442, 443, 444, 1019, 1020, 1021, 1022, 1023] (by decide +kernel)
theorem zg18 : wsL_law_r18.all goodWord = true := by decide +kernel
set_option maxRecDepth 20000 in
theorem zr19 : ∀ w ∈ wsL_law_r19, w ∈ lw_tbl := z_pl_in _ [1024, 1025, 445, 446, 447, 448, 449, 450, 451, 452, 453, 454, 455, 456, 457, 458, 459, 460, 161, 461, 462, 76, 463, 464] (by decide +kernel)
theorem zg19 : wsL_law_r19.all goodWord = true := by decide +kernel
set_option maxRecDepth 20000 in
theorem zr20 : ∀ w ∈ wsL_law_r20, w ∈ lw_tbl := z_pl_in _ [465, 466, 467, 468, 469, 470, 472, 473, 474, 475, 476, 477, 478, 479, 480, 481, 482, 483, 484, 485, 504, 486, 487, 488] (by decide +kernel)
theorem zg20 : wsL_law_r20.all goodWord = true := by decide +kernel
set_option maxRecDepth 20000 in
theorem zr21 : ∀ w ∈ wsL_law_r21, w ∈ lw_tbl := z_pl_in _ [489, 490, 491, 492, 493, 494, 495, 497, 15, 498, 500, 501, 502, 1026, 505, 506, 507, 508, 509, 1040, 1041, 1042, 1043, 1044] (by decide +kernel)
theorem zg21 : wsL_law_r21.all goodWord = true := by decide +kernel
set_option maxRecDepth 20000 in
theorem zr22 : ∀ w ∈ wsL_law_r22, w ∈ lw_tbl := z_pl_in _ [1046, 48, 1047, 510, 511, 512, 513, 514, 515, 516, 517, 1048, 1049, 1050, 1051, 1052, 1054, 49, 1055, 518, 519, 520, 521, 120] (by decide +kernel)
theorem zg22 : wsL_law_r22.all goodWord = true := by decide +kernel
set_option maxRecDepth 20000 in
theorem zr23 : ∀ w ∈ wsL_law_r23, w ∈ lw_tbl := z_pl_in _ [1027, 1028, 1029, 1030, 1031, 765, 522, 523, 524, 525, 97, 1032, 1033, 1034, 1035, 526, 527, 528, 529, 162, 1036, 1037, 1038, 1039] (by decide +kernel)
theorem zg23 : wsL_law_r23.all goodWord = true := by decide +kernel
set_option maxRecDepth 20000 in
theorem zr24 : ∀ w ∈ wsL_law_r24, w ∈ lw_tbl := z_pl_in _ [530, 531, 532, 533, 534, 535, 536, 537, 1072, 1073, 1074, 1075, 1076, 1078, 53, 1079, 538, 539, 540, 541, 156, 542, 1080, 1081] (by decide +kernel)
theorem zg24 : wsL_law_r24.all goodWord = true := by decide +kernel
set_option maxRecDepth 20000 in
theorem zr25 : ∀ w ∈ wsL_law_r25, w ∈ lw_tbl := z_pl_in _ [1082, 1083, 1084, 1086, 54, 1087, 543, 544, 545, 546, 547, 548, 549, 550, 551, 552, 553, 554, 555, 556, 1088, 1089, 1090, 1091] (by decide +kernel)
theorem zg25 : wsL_law_r25.all goodWord = true := by decide +kernel
set_option maxRecDepth 20000 in
theorem zr26 : ∀ w ∈ wsL_law_r26, w ∈ lw_tbl := z_pl_in _ [1092, 1094, 55, 1095, 1060, 1062, 50, 1063, 557, 558, 559, 560, 158, 561, 562, 563, 564, 566, 567, 568, 565, 1096, 1097, 1098] (by decide +kernel)
theorem zg26 : wsL_law_r26.all goodWord = true := by decide +kernel
set_option maxRecDepth 20000 in
theorem zr27 : ∀ w ∈ wsL_law_r27, w ∈ lw_tbl := z_pl_in _ [1099, 1100, 1102, 56, 1103, 569, 570, 571, 572, 573, 574, 575, 576, 577, 578, 579, 580, 1056, 1057, 1058, 1059, 1064, 1066, 51] (by decide +kernel)
theorem zg27 : wsL_law_r27.all goodWord = true := by decide +kernel
set_option maxRecDepth 20000 in
theorem zr28 : ∀ w ∈ wsL_law_r28, w ∈ lw_tbl := z_pl_in _ [1067, 1068, 1070, 52, 1071, 581, 582, 583, 584, 585, 1104, 1105, 1106, 1107, 1108, 586, 587, 588, 589, 590, 591, 592, 593, 594] (by decide +kernel)
theorem zg28 : wsL_law_r28.all goodWord = true := by decide +kernel
set_option maxRecDepth 20000 in
theorem zr29 : ∀ w ∈ wsL_law_r29, w ∈ lw_tbl := z_pl_in _ [596, 595, 77, 1109, 1110, 1111, 1112, 1113, 1114, 1115, 1117, 57, 1118, 1119, 1121, 58, 1122, 597, 598, 599, 600, 1123, 1124, 1125] (by decide +kernel)
theorem zg29 : wsL_law_r29.all goodWord = true := by decide +kernel
set_option maxRecDepth 20000 in
theorem zr30 : ∀ w ∈ wsL_law_r30, w ∈ lw_tbl := z_pl_in _ [1126, 601, 602, 603, 604, 196, 605, 606, 607, 608, 154, 609, 194, 151, 610, 611, 612, 613, 614, 615, 195, 616, 618, 16] (by decide +kernel)
theorem zg30 : wsL_law_r30.all goodWord = true := by decide +kernel
set_option maxRecDepth 20000 in
theorem zr31 : ∀ w ∈ wsL_law_r31, w ∈ lw_tbl := z_pl_in _ [619, 620, 622, 17, 623, 624, 625, 626, 627, 1127, 1128, 1129, 1130, 790, 791, 1131, 1133, 59, 1134, 1135, 1137, 60, 1138, 628] (by decide +kernel)
theorem zg31 : wsL_law_r31.all goodWord = true := by decide +kernel
set_option maxRecDepth 20000 in
theorem zr32 : ∀ w ∈ wsL_law_r32, w ∈ lw_tbl := z_pl_in _ [629, 630, 631, 153, 1139, 1140, 1141, 1142, 632, 633, 634, 635, 1143, 1144, 1145, 1146, 636, 637, 638, 639, 640, 641, 642, 643] (by decide +kernel)
theorem zg32 : wsL_law_r32.all goodWord = true := by decide +kernel
set_option maxRecDepth 20000 in
theorem zr33 : ∀ w ∈ wsL_law_r33, w ∈ lw_tbl := z_pl_in _ [644, 646, 18, 647, 648, 650, 19, 651, 652, 654, 20, 655, 1147, 1148, 1149, 1150, 1151, 1153, 61, 1154, 656, 657, 658, 659] (by decide +kernel)
theorem zg33 : wsL_law_r33.all goodWord = true := by decide +kernel
set_option maxRecDepth 20000 in
theorem zr34 : ∀ w ∈ wsL_law_r34, w ∈ lw_tbl := z_pl_in _ [660, 661, 662, 663, 1155, 1156, 1157, 1158, 1159, 1160, 1161, 1162, 664, 665, 666, 667, 221, 224, 668, 669, 670, 671, 672, 673] (by decide +kernel)
theorem zg34 : wsL_law_r34.all goodWord = true := by decide +kernel
set_option maxRecDepth 20000 in
theorem zr35 : ∀ w ∈ wsL_law_r35, w ∈ lw_tbl := z_pl_in _ [674, 223, 218, 675, 677, 21, 678, 679, 680, 681, 1163, 1164, 1165, 1166, 1170, 1167, 1168, 1169, 1171, 1173, 62, 1174, 682, 683] (by decide +kernel)
theorem zg35 : wsL_law_r35.all goodWord = true := by decide +kernel
set_option maxRecDepth 20000 in
theorem zr36 : ∀ w ∈ wsL_law_r36, w ∈ lw_tbl := z_pl_in _ [684, 685, 686, 687, 688, 689, 222, 690, 691, 692, 693, 694, 695, 696, 697, 1175, 1176, 1177, 1178, 1179, 1180, 1181, 1182, 1183] (by decide +kernel)
theorem zg36 : wsL_law_r36.all goodWord = true := by decide +kernel
set_option maxRecDepth 20000 in
theorem zr37 : ∀ w ∈ wsL_law_r37, w ∈ lw_tbl := z_pl_in _ [698, 699, 700, 701, 702, 703, 704, 705, 706, 1184, 1185, 1186, 1187, 1188, 1190, 63, 1191, 1192, 707, 708, 709, 710, 1193, 1194] (by decide +kernel)
theorem zg37 : wsL_law_r37.all goodWord = true := by decide +kernel
set_option maxRecDepth 20000 in
theorem zr38 : ∀ w ∈ wsL_law_r38, w ∈ lw_tbl := z_pl_in _ [1195, 1196, 711, 712, 713, 714, 394, 1197, 1198, 1199, 1200, 795, 796, 797, 798, 715, 716, 717, 718, 1201, 1202, 1203, 1204, 719] (by decide +kernel)
theorem zg38 : wsL_law_r38.all goodWord = true := by decide +kernel
set_option maxRecDepth 20000 in
theorem zr39 : ∀ w ∈ wsL_law_r39, w ∈ lw_tbl := z_pl_in _ [720, 721, 722, 1205, 1206, 1207, 1208, 723, 724, 725, 726, 1209, 727, 728, 729, 730, 731, 1210, 1211, 1212, 1213, 732, 733, 734] (by decide +kernel)
theorem zg39 : wsL_law_r39.all goodWord = true := by decide +kernel
set_option maxRecDepth 20000 in
theorem zr40 : ∀ w ∈ wsL_law_r40, w ∈ lw_tbl := z_pl_in _ [735, 219, 740, 736, 737, 738, 739, 1214, 1215, 1216, 1217, 741, 742, 743, 744, 1218, 1219, 1220, 1221, 1222, 1223, 745, 746, 747] (by decide +kernel)
theorem zg40 : wsL_law_r40.all goodWord = true := by decide +kernel
set_option maxRecDepth 20000 in
theorem zr41 : ∀ w ∈ wsL_law_r41, w ∈ lw_tbl := z_pl_in _ [748, 749, 1224, 1225, 1226, 1227, 1228, 1229, 1230] (by decide +kernel)
theorem zg41 : wsL_law_r41.all goodWord = true := by decide +kernel
set_option maxRecDepth 20000 in
theorem zx0 : ∀ w ∈ wsX00, w ∈ lw_tbl := z_pl_in _ [163, 165, 167, 169, 171, 173, 175, 177, 179, 181] (by decide +kernel)
theorem zxg0 : wsX00.all goodWord = true := by decide +kernel
set_option maxRecDepth 20000 in
theorem zx1 : ∀ w ∈ wsX10, w ∈ lw_tbl := z_pl_in _ [197, 199, 201, 203, 205, 207] (by decide +kernel)
theorem zxg1 : wsX10.all goodWord = true := by decide +kernel
set_option maxRecDepth 20000 in
theorem zx2 : ∀ w ∈ wsX20, w ∈ lw_tbl := z_pl_in _ [125, 127, 129, 131, 133, 135, 137] (by decide +kernel)
theorem zxg2 : wsX20.all goodWord = true := by decide +kernel
set_option maxRecDepth 20000 in
theorem zx3 : ∀ w ∈ wsX30, w ∈ lw_tbl := z_pl_in _ [225, 227, 229] (by decide +kernel)
theorem zxg3 : wsX30.all goodWord = true := by decide +kernel
set_option maxRecDepth 20000 in
theorem zx4 : ∀ w ∈ wsX40, w ∈ lw_tbl := z_pl_in _ [99, 101, 103, 105, 107] (by decide +kernel)
theorem zxg4 : wsX40.all goodWord = true := by decide +kernel
set_option maxRecDepth 20000 in
theorem zx5 : ∀ w ∈ wsX50, w ∈ lw_tbl := z_pl_in _ [395, 397, 399, 401, 403, 405, 407, 409] (by decide +kernel)
theorem zxg5 : wsX50.all goodWord = true := by decide +kernel
set_option maxRecDepth 20000 in
theorem zx6 : ∀ w ∈ wsX60, w ∈ lw_tbl := z_pl_in _ [803, 805, 807, 809, 811, 813, 815, 817, 819, 821, 823, 825, 827, 829, 831, 833, 835, 837, 839, 841, 843, 845, 847, 849, 851, 853, 855, 857, 859, 861, 863, 865, 867, 869, 871, 873, 875, 877, 879, 881, 883, 885, 887, 889] (by decide +kernel)
theorem zxg6 : wsX60.all goodWord = true := by decide +kernel
theorem wsL_law_in : ∀ w ∈ wsL_law, w ∈ lw_tbl := z_in_app (z_in_app (z_in_app (z_in_app (z_in_app (z_in_app (z_in_app (z_in_app (z_in_app zr1 (z_in_app zr2 (z_in_app zr3 (z_in_app zr4 (z_in_app zr5 (z_in_app zr6 (z_in_app zr7 (z_in_app zr8 (z_in_app zr9 (z_in_app zr10 (z_in_app zr11 (z_in_app zr12 (z_in_app zr13 (z_in_app zr14 (z_in_app zr15 (z_in_app zr16 (z_in_app zr17 (z_in_app zr18 (z_in_app zr19 (z_in_app zr20 (z_in_app zr21 (z_in_app zr22 (z_in_app zr23 (z_in_app zr24 (z_in_app zr25 (z_in_app zr26 (z_in_app zr27 (z_in_app zr28 (z_in_app zr29 (z_in_app zr30 (z_in_app zr31 (z_in_app zr32 (z_in_app zr33 (z_in_app zr34 (z_in_app zr35 (z_in_app zr36 (z_in_app zr37 (z_in_app zr38 (z_in_app zr39 (z_in_app zr40 zr41)))))))))))))))))))))))))))))))))))))))) zx5) zx6) zx4) zx2) zx0) zx1) zx3) (fun _ h => absurd h List.not_mem_nil)
theorem wsL_law_good : wsL_law.all goodWord = true := z_all_app (z_all_app (z_all_app (z_all_app (z_all_app (z_all_app (z_all_app (z_all_app (z_all_app zg1 (z_all_app zg2 (z_all_app zg3 (z_all_app zg4 (z_all_app zg5 (z_all_app zg6 (z_all_app zg7 (z_all_app zg8 (z_all_app zg9 (z_all_app zg10 (z_all_app zg11 (z_all_app zg12 (z_all_app zg13 (z_all_app zg14 (z_all_app zg15 (z_all_app zg16 (z_all_app zg17 (z_all_app zg18 (z_all_app zg19 (z_all_app zg20 (z_all_app zg21 (z_all_app zg22 (z_all_app zg23 (z_all_app zg24 (z_all_app zg25 (z_all_app zg26 (z_all_app zg27 (z_all_app zg28 (z_all_app zg29 (z_all_app zg30 (z_all_app zg31 (z_all_app zg32 (z_all_app zg33 (z_all_app zg34 (z_all_app zg35 (z_all_app zg36 (z_all_app zg37 (z_all_app zg38 (z_all_app zg39 (z_all_app zg40 zg41)))))))))))))))))))))))))))))))))))))))) zxg5) zxg6) zxg4) zxg2) zxg0) zxg1) zxg3) rfl
theorem zs1 : ∀ w ∈ wsL_law_r1, w ∈ wsL_law := fun _ h => List.mem_append_left _ (List.mem_append_left _ (List.mem_append_left _ (List.mem_append_left _ (List.mem_append_left _ (List.mem_append_left _ (List.mem_append_left _ (List.mem_append_left _ (List.mem_append_left _ h))))))))
theorem zs2 : ∀ w ∈ wsL_law_r2, w ∈ wsL_law := fun _ h => List.mem_append_left _ (List.mem_append_left _ (List.mem_append_left _ (List.mem_append_left _ (List.mem_append_left _ (List.mem_append_left _ (List.mem_append_left _ (List.mem_append_left _ (List.mem_append_right _ (List.mem_append_left _ h)))))))))
theorem zs3 : ∀ w ∈ wsL_law_r3, w ∈ wsL_law := fun _ h => List.mem_append_left _ (List.mem_append_left _ (List.mem_append_left _ (List.mem_append_left _ (List.mem_append_left _ (List.mem_append_left _ (List.mem_append_left _ (List.mem_append_left _ (List.mem_append_right _ (List.mem_append_right _ (List.mem_append_left _ h))))))))))
theorem zs4 : ∀ w ∈ wsL_law_r4, w ∈ wsL_law := fun _ h => List.mem_append_left _ (List.mem_append_left _ (List.mem_append_left _ (List.mem_append_left _ (List.mem_append_left _ (List.mem_append_left _ (List.mem_append_left _ (List.mem_append_left _ (List.mem_append_right _ (List.mem_append_right _ (List.mem_append_right _ (List.mem_append_left _ h)))))))))))
theorem zs5 : ∀ w ∈ wsL_law_r5, w ∈ wsL_law := fun _ h => List.mem_append_left _ (List.mem_append_left _ (List.mem_append_left _ (List.mem_append_left _ (List.mem_append_left _ (List.mem_append_left _ (List.mem_append_left _ (List.mem_append_left _ (List.mem_append_right _ (List.mem_append_right _ (List.mem_append_right _ (List.mem_append_right _ (List.mem_append_left _ h))))))))))))
theorem zs6 : ∀ w ∈ wsL_law_r6, w ∈ wsL_law := fun _ h => List.mem_append_left _ (List.mem_append_left _ (List.mem_append_left _ (List.mem_append_left _ (List.mem_append_left _ (List.mem_append_left _ (List.mem_append_left _ (List.mem_append_left _ (List.mem_append_right _ (List.mem_append_right _ (List.mem_append_right _ (List.mem_append_right _ (List.mem_append_right _ (List.mem_append_left _ h)))))))))))))
theorem zs7 : ∀ w ∈ wsL_law_r7, w ∈ wsL_law := fun _ h => List.mem_append_left _ (List.mem_append_left _ (List.mem_append_left _ (List.mem_append_left _ (List.mem_append_left _ (List.mem_append_left _ (List.mem_append_left _ (List.mem_append_left _ (List.mem_append_right _ (List.mem_append_right _ (List.mem_append_right _ (List.mem_append_right _ (List.mem_append_right _ (List.mem_append_right _ (List.mem_append_left _ h))))))))))))))
theorem zs8 : ∀ w ∈ wsL_law_r8, w ∈ wsL_law := fun _ h => List.mem_append_left _ (List.mem_append_left _ (List.mem_append_left _ (List.mem_append_left _ (List.mem_append_left _ (List.mem_append_left _ (List.mem_append_left _ (List.mem_append_left _ (List.mem_append_right _ (List.mem_append_right _ (List.mem_append_right _ (List.mem_append_right _ (List.mem_append_right _ (List.mem_append_right _ (List.mem_append_right _ (List.mem_append_left _ h)))))))))))))))
theorem zs9 : ∀ w ∈ wsL_law_r9, w ∈ wsL_law := fun _ h => List.mem_append_left _ (List.mem_append_left _ (List.mem_append_left _ (List.mem_append_left _ (List.mem_append_left _ (List.mem_append_left _ (List.mem_append_left _ (List.mem_append_left _ (List.mem_append_right _ (List.mem_append_right _ (List.mem_append_right _ (List.mem_append_right _ (List.mem_append_right _ (List.mem_append_right _ (List.mem_append_right _ (List.mem_append_right _ (List.mem_append_left _ h))))))))))))))))
theorem zs10 : ∀ w ∈ wsL_law_r10, w ∈ wsL_law := fun _ h => List.mem_append_left _ (List.mem_append_left _ (List.mem_append_left _ (List.mem_append_left _ (List.mem_append_left _ (List.mem_append_left _ (List.mem_append_left _ (List.mem_append_left _ (List.mem_append_right _ (List.mem_append_right _ (List.mem_append_right _ (List.mem_append_right _ (List.mem_append_right _ (List.mem_append_right _ (List.mem_append_right _ (List.mem_append_right _ (List.mem_append_right _ (List.mem_append_left _ h)))))))))))))))))
theorem zs11 : ∀ w ∈ wsL_law_r11, w ∈ wsL_law := fun _ h => List.mem_append_left _ (List.mem_append_left _ (List.mem_append_left _ (List.mem_append_left _ (List.mem_append_left _ (List.mem_append_left _ (List.mem_append_left _ (List.mem_append_left _ (List.mem_append_right _ (List.mem_append_right _ (List.mem_append_right _ (List.mem_append_right _ (List.mem_append_right _ (List.mem_append_right _ (List.mem_append_right _ (List.mem_append_right _ (List.mem_append_right _ (List.mem_append_right _ (List.mem_append_left _ h))))))))))))))))))
theorem zs12 : ∀ w ∈ wsL_law_r12, w ∈ wsL_law := fun _ h => List.mem_append_left _ (List.mem_append_left _ (List.mem_append_left _ (List.mem_append_left _ (List.mem_append_left _ (List.mem_append_left _ (List.mem_append_left _ (List.mem_append_left _ (List.mem_append_right _ (List.mem_append_right _ (List.mem_append_right _ (List.mem_append_right _ (List.mem_append_right _ (List.mem_append_right _ (List.mem_append_right _ (List.mem_append_right _ (List.mem_append_right _ (List.mem_append_right _ (List.mem_append_right _ (List.mem_append_left _ h)))))))))))))))))))
theorem zs13 : ∀ w ∈ wsL_law_r13, w ∈ wsL_law := fun _ h => List.mem_append_left _ (List.mem_append_left _ (List.mem_append_left _ (List.mem_append_left _ (List.mem_append_left _ (List.mem_append_left _ (List.mem_append_left _ (List.mem_append_left _ (List.mem_append_right _ (List.mem_append_right _ (List.mem_append_right _ (List.mem_append_right _ (List.mem_append_right _ (List.mem_append_right _ (List.mem_append_right _ (List.mem_append_right _ (List.mem_append_right _ (List.mem_append_right _ (List.mem_append_right _ (List.mem_append_right _ (List.mem_append_left _ h))))))))))))))))))))
theorem zs14 : ∀ w ∈ wsL_law_r14, w ∈ wsL_law := fun _ h => List.mem_append_left _ (List.mem_append_left _ (List.mem_append_left _ (List.mem_append_left _ (List.mem_append_left _ (List.mem_append_left _ (List.mem_append_left _ (List.mem_append_left _ (List.mem_append_right _ (List.mem_append_right _ (List.mem_append_right _ (List.mem_append_right _ (List.mem_append_right _ (List.mem_append_right _ (List.mem_append_right _ (List.mem_append_right _ (List.mem_append_right _ (List.mem_append_right _ (List.mem_append_right _ (List.mem_append_right _ (List.mem_append_right _ (List.mem_append_left _ h)))))))))))))))))))))
theorem zs15 : ∀ w ∈ wsL_law_r15, w ∈ wsL_law := fun _ h => List.mem_append_left _ (List.mem_append_left _ (List.mem_append_left _ (List.mem_append_left _ (List.mem_append_left _ (List.mem_append_left _ (List.mem_append_left _ (List.mem_append_left _ (List.mem_append_right _ (List.mem_append_right _ (List.mem_append_right _ (List.mem_append_right _ (List.mem_append_right _ (List.mem_append_right _ (List.mem_append_right _ (List.mem_append_right _ (List.mem_append_right _ (List.mem_append_right _ (List.mem_append_right _ (List.mem_append_right _ (List.mem_append_right _ (List.mem_append_right _ (List.mem_append_left _ h))))))))))))))))))))))
theorem zs16 : ∀ w ∈ wsL_law_r16, w ∈ wsL_law := fun _ h => List.mem_append_left _ (List.mem_append_left _ (List.mem_append_left _ (List.mem_append_left _ (List.mem_append_left _ (List.mem_append_left _ (List.mem_append_left _ (List.mem_append_left _ (List.mem_append_right _ (List.mem_append_right _ (List.mem_append_right _ (List.mem_append_right _ (List.mem_append_right _ (List.mem_append_right _ (List.mem_append_right _ (List.mem_append_right _ (List.mem_append_right _ (List.mem_append_right _ (List.mem_append_right _ (List.mem_append_right _ (List.mem_append_right _ (List.mem_append_right _ (List.mem_append_right _ (List.mem_append_left _ h)))))))))))))))))))))))
theorem zs17 : ∀ w ∈ wsL_law_r17, w ∈ wsL_law := fun _ h => List.mem_append_left _ (List.mem_append_left _ (List.mem_append_left _ (List.mem_append_left _ (List.mem_append_left _ (List.mem_append_left _ (List.mem_append_left _ (List.mem_append_left _ (List.mem_append_right _ (List.mem_append_right _ (List.mem_append_right _ (List.mem_append_right _ (List.mem_append_right _ (List.mem_append_right _ (List.mem_append_right _ (List.mem_append_right _ (List.mem_append_right _ (List.mem_append_right _ (List.mem_append_right _ (List.mem_append_right _ (List.mem_append_right _ (List.mem_append_right _ (List.mem_append_right _ (List.mem_append_right _ (List.mem_append_left _ h))))))))))))))))))))))))
theorem zs18 : ∀ w ∈ wsL_law_r18, w ∈ wsL_law := fun _ h => List.mem_append_left _ (List.mem_append_left _ (List.mem_append_left _ (List.mem_append_left _ (List.mem_append_left _ (List.mem_append_left _ (List.mem_append_left _ (List.mem_append_left _ (List.mem_append_right _ (List.mem_append_right _ (List.mem_append_right _ (List.mem_append_right _ (List.mem_append_right _ (List.mem_append_right _ (List.mem_append_right _ (List.mem_append_right _ (List.mem_append_right _ (List.mem_append_right _ (List.mem_append_right _ (List.mem_append_right _ (List.mem_append_right _ (List.mem_append_right _ (List.mem_append_right _ (List.mem_append_right _ (List.mem_append_right _ (List.mem_append_left _ h)))))))))))))))))))))))))
theorem zs19 : ∀ w ∈ wsL_law_r19, w ∈ wsL_law := fun _ h => List.mem_append_left _ (List.mem_append_left _ (List.mem_append_left _ (List.mem_append_left _ (List.mem_append_left _ (List.mem_append_left _ (List.mem_append_left _ (List.mem_append_left _ (List.mem_append_right _ (List.mem_append_right _ (List.mem_append_right _ (List.mem_append_right _ (List.mem_append_right _ (List.mem_append_right _ (List.mem_append_right _ (List.mem_append_right _ (List.mem_append_right _ (List.mem_append_right _ (List.mem_append_right _ (List.mem_append_right _ (List.mem_append_right _ (List.mem_append_right _ (List.mem_append_right _ (List.mem_append_right _ (List.mem_append_right _ (List.mem_append_right _ (List.mem_append_left _ h))))))))))))))))))))))))))
theorem zs20 : ∀ w ∈ wsL_law_r20, w ∈ wsL_law := fun _ h => List.mem_append_left _ (List.mem_append_left _ (List.mem_append_left _ (List.mem_append_left _ (List.mem_append_left _ (List.mem_append_left _ (List.mem_append_left _ (List.mem_append_left _ (List.mem_append_right _ (List.mem_append_right _ (List.mem_append_right _ (List.mem_append_right _ (List.mem_append_right _ (List.mem_append_right _ (List.mem_append_right _ (List.mem_append_right _ (List.mem_append_right _ (List.mem_append_right _ (List.mem_append_right _ (List.mem_append_right _ (List.mem_append_right _ (List.mem_append_right _ (List.mem_append_right _ (List.mem_append_right _ (List.mem_append_right _ (List.mem_append_right _ (List.mem_append_right _ (List.mem_append_left _ h)))))))))))))))))))))))))))
theorem zs21 : ∀ w ∈ wsL_law_r21, w ∈ wsL_law := fun _ h => List.mem_append_left _ (List.mem_append_left _ (List.mem_append_left _ (List.mem_append_left _ (List.mem_append_left _ (List.mem_append_left _ (List.mem_append_left _ (List.mem_append_left _ (List.mem_append_right _ (List.mem_append_right _ (List.mem_append_right _ (List.mem_append_right _ (List.mem_append_right _ (List.mem_append_right _ (List.mem_append_right _ (List.mem_append_right _ (List.mem_append_right _ (List.mem_append_right _ (List.mem_append_right _ (List.mem_append_right _ (List.mem_append_right _ (List.mem_append_right _ (List.mem_append_right _ (List.mem_append_right _ (List.mem_append_right _ (List.mem_append_right _ (List.mem_append_right _ (List.mem_append_right _ (List.mem_append_left _ h))))))))))))))))))))))))))))
theorem zs22 : ∀ w ∈ wsL_law_r22, w ∈ wsL_law := fun _ h => List.mem_append_left _ (List.mem_append_left _ (List.mem_append_left _ (List.mem_append_left _ (List.mem_append_left _ (List.mem_append_left _ (List.mem_append_left _ (List.mem_append_left _ (List.mem_append_right _ (List.mem_append_right _ (List.mem_append_right _ (List.mem_append_right _ (List.mem_append_right _ (List.mem_append_right _ (List.mem_append_right _ (List.mem_append_right _ (List.mem_append_right _ (List.mem_append_right _ (List.mem_append_right _ (List.mem_append_right _ (List.mem_append_right _ (List.mem_append_right _ (List.mem_append_right _ (List.mem_append_right _ (List.mem_append_right _ (List.mem_append_right _ (List.mem_append_right _ (List.mem_append_right _ (List.mem_append_right _ (List.mem_append_left _ h)))))))))))))))))))))))))))))
theorem zs23 : ∀ w ∈ wsL_law_r23, w ∈ wsL_law := fun _ h => List.mem_append_left _ (List.mem_append_left _ (List.mem_append_left _ (List.mem_append_left _ (List.mem_append_left _ (List.mem_append_left _ (List.mem_append_left _ (List.mem_append_left _ (List.mem_append_right _ (List.mem_append_right _ (List.mem_append_right _ (List.mem_append_right _ (List.mem_append_right _ (List.mem_append_right _ (List.mem_append_right _ (List.mem_append_right _ (List.mem_append_right _ (List.mem_append_right _ (List.mem_append_right _ (List.mem_append_right _ (List.mem_append_right _ (List.mem_append_right _ (List.mem_append_right _ (List.mem_append_right _ (List.mem_append_right _ (List.mem_append_right _ (List.mem_append_right _ (List.mem_append_right _ (List.mem_append_right _ (List.mem_append_right _ (List.mem_append_left _ h))))))))))))))))))))))))))))))
theorem zs24 : ∀ w ∈ wsL_law_r24, w ∈ wsL_law := fun _ h => List.mem_append_left _ (List.mem_append_left _ (List.mem_append_left _ (List.mem_append_left _ (List.mem_append_left _ (List.mem_append_left _ (List.mem_append_left _ (List.mem_append_left _ (List.mem_append_right _ (List.mem_append_right _ (List.mem_append_right _ (List.mem_append_right _ (List.mem_append_right _ (List.mem_append_right _ (List.mem_append_right _ (List.mem_append_right _ (List.mem_append_right _ (List.mem_append_right _ (List.mem_append_right _ (List.mem_append_right _ (List.mem_append_right _ (List.mem_append_right _ (List.mem_append_right _ (List.mem_append_right _ (List.mem_append_right _ (List.mem_append_right _ (List.mem_append_right _ (List.mem_append_right _ (List.mem_append_right _ (List.mem_append_right _ (List.mem_append_right _ (List.mem_append_left _ h)))))))))))))))))))))))))))))))
theorem zs25 : ∀ w ∈ wsL_law_r25, w ∈ wsL_law := fun _ h => List.mem_append_left _ (List.mem_append_left _ (List.mem_append_left _ (List.mem_append_left _ (List.mem_append_left _ (List.mem_append_left _ (List.mem_append_left _ (List.mem_append_left _ (List.mem_append_right _ (List.mem_append_right _ (List.mem_append_right _ (List.mem_append_right _ (List.mem_append_right _ (List.mem_append_right _ (List.mem_append_right _ (List.mem_append_right _ (List.mem_append_right _ (List.mem_append_right _ (List.mem_append_right _ (List.mem_append_right _ (List.mem_append_right _ (List.mem_append_right _ (List.mem_append_right _ (List.mem_append_right _ (List.mem_append_right _ (List.mem_append_right _ (List.mem_append_right _ (List.mem_append_right _ (List.mem_append_right _ (List.mem_append_right _ (List.mem_append_right _ (List.mem_append_right _ (List.mem_append_left _ h))))))))))))))))))))))))))))))))
theorem zs26 : ∀ w ∈ wsL_law_r26, w ∈ wsL_law := fun _ h => List.mem_append_left _ (List.mem_append_left _ (List.mem_append_left _ (List.mem_append_left _ (List.mem_append_left _ (List.mem_append_left _ (List.mem_append_left _ (List.mem_append_left _ (List.mem_append_right _ (List.mem_append_right _ (List.mem_append_right _ (List.mem_append_right _ (List.mem_append_right _ (List.mem_append_right _ (List.mem_append_right _ (List.mem_append_right _ (List.mem_append_right _ (List.mem_append_right _ (List.mem_append_right _ (List.mem_append_right _ (List.mem_append_right _ (List.mem_append_right _ (List.mem_append_right _ (List.mem_append_right _ (List.mem_append_right _ (List.mem_append_right _ (List.mem_append_right _ (List.mem_append_right _ (List.mem_append_right _ (List.mem_append_right _ (List.mem_append_right _ (List.mem_append_right _ (List.mem_append_right _ (List.mem_append_left _ h)))))))))))))))))))))))))))))))))
theorem zs27 : ∀ w ∈ wsL_law_r27, w ∈ wsL_law := fun _ h => List.mem_append_left _ (List.mem_append_left _ (List.mem_append_left _ (List.mem_append_left _ (List.mem_append_left _ (List.mem_append_left _ (List.mem_append_left _ (List.mem_append_left _ (List.mem_append_right _ (List.mem_append_right _ (List.mem_append_right _ (List.mem_append_right _ (List.mem_append_right _ (List.mem_append_right _ (List.mem_append_right _ (List.mem_append_right _ (List.mem_append_right _ (List.mem_append_right _ (List.mem_append_right _ (List.mem_append_right _ (List.mem_append_right _ (List.mem_append_right _ (List.mem_append_right _ (List.mem_append_right _ (List.mem_append_right _ (List.mem_append_right _ (List.mem_append_right _ (List.mem_append_right _ (List.mem_append_right _ (List.mem_append_right _ (List.mem_append_right _ (List.mem_append_right _ (List.mem_append_right _ (List.mem_append_right _ (List.mem_append_left _ h))))))))))))))))))))))))))))))))))
theorem zs28 : ∀ w ∈ wsL_law_r28, w ∈ wsL_law := fun _ h => List.mem_append_left _ (List.mem_append_left _ (List.mem_append_left _ (List.mem_append_left _ (List.mem_append_left _ (List.mem_append_left _ (List.mem_append_left _ (List.mem_append_left _ (List.mem_append_right _ (List.mem_append_right _ (List.mem_append_right _ (List.mem_append_right _ (List.mem_append_right _ (List.mem_append_right _ (List.mem_append_right _ (List.mem_append_right _ (List.mem_append_right _ (List.mem_append_right _ (List.mem_append_right _ (List.mem_append_right _ (List.mem_append_right _ (List.mem_append_right _ (List.mem_append_right _ (List.mem_append_right _ (List.mem_append_right _ (List.mem_append_right _ (List.mem_append_right _ (List.mem_append_right _ (List.mem_append_right _ (List.mem_append_right _ (List.mem_append_right _ (List.mem_append_right _ (List.mem_append_right _ (List.mem_append_right _ (List.mem_append_right _ (List.mem_append_left _ h)))))))))))))))))))))))))))))))))))
theorem zs29 : ∀ w ∈ wsL_law_r29, w ∈ wsL_law := fun _ h => List.mem_append_left _ (List.mem_append_left _ (List.mem_append_left _ (List.mem_append_left _ (List.mem_append_left _ (List.mem_append_left _ (List.mem_append_left _ (List.mem_append_left _ (List.mem_append_right _ (List.mem_append_right _ (List.mem_append_right _ (List.mem_append_right _ (List.mem_append_right _ (List.mem_append_right _ (List.mem_append_right _ (List.mem_append_right _ (List.mem_append_right _ (List.mem_append_right _ (List.mem_append_right _ (List.mem_append_right _ (List.mem_append_right _ (List.mem_append_right _ (List.mem_append_right _ (List.mem_append_right _ (List.mem_append_right _ (List.mem_append_right _ (List.mem_append_right _ (List.mem_append_right _ (List.mem_append_right _ (List.mem_append_right _ (List.mem_append_right _ (List.mem_append_right _ (List.mem_append_right _ (List.mem_append_right _ (List.mem_append_right _ (List.mem_append_right _ (List.mem_append_left _ h))))))))))))))))))))))))))))))))))))
theorem zs30 : ∀ w ∈ wsL_law_r30, w ∈ wsL_law := fun _ h => List.mem_append_left _ (List.mem_append_left _ (List.mem_append_left _ (List.mem_append_left _ (List.mem_append_left _ (List.mem_append_left _ (List.mem_append_left _ (List.mem_append_left _ (List.mem_append_right _ (List.mem_append_right _ (List.mem_append_right _ (List.mem_append_right _ (List.mem_append_right _ (List.mem_append_right _ (List.mem_append_right _ (List.mem_append_right _ (List.mem_append_right _ (List.mem_append_right _ (List.mem_append_right _ (List.mem_append_right _ (List.mem_append_right _ (List.mem_append_right _ (List.mem_append_right _ (List.mem_append_right _ (List.mem_append_right _ (List.mem_append_right _ (List.mem_append_right _ (List.mem_append_right _ (List.mem_append_right _ (List.mem_append_right _ (List.mem_append_right _ (List.mem_append_right _ (List.mem_append_right _ (List.mem_append_right _ (List.mem_append_right _ (List.mem_append_right _ (List.mem_append_right _ (List.mem_append_left _ h)))))))))))))))))))))))))))))))))))))
theorem zs31 : ∀ w ∈ wsL_law_r31, w ∈ wsL_law := fun _ h => List.mem_append_left _ (List.mem_append_left _ (List.mem_append_left _ (List.mem_append_left _ (List.mem_append_left _ (List.mem_append_left _ (List.mem_append_left _ (List.mem_append_left _ (List.mem_append_right _ (List.mem_append_right _ (List.mem_append_right _ (List.mem_append_right _ (List.mem_append_right _ (List.mem_append_right _ (List.mem_append_right _ (List.mem_append_right _ (List.mem_append_right _ (List.mem_append_right _ (List.mem_append_right _ (List.mem_append_right _ (List.mem_append_right _ (List.mem_append_right _ (List.mem_append_right _ (List.mem_append_right _ (List.mem_append_right _ (List.mem_append_right _ (List.mem_append_right _ (List.mem_append_right _ (List.mem_append_right _ (List.mem_append_right _ (List.mem_append_right _ (List.mem_append_right _ (List.mem_append_right _ (List.mem_append_right _ (List.mem_append_right _ (List.mem_append_right _ (List.mem_append_right _ (List.mem_append_right _ (List.mem_append_left _ h))))))))))))))))))))))))))))))))))))))
theorem zs32 : ∀ w ∈ wsL_law_r32, w ∈ wsL_law := fun _ h => List.mem_append_left _ (List.mem_append_left _ (List.mem_append_left _ (List.mem_append_left _ (List.mem_append_left _ (List.mem_append_left _ (List.mem_append_left _ (List.mem_append_left _ (List.mem_append_right _ (List.mem_append_right _ (List.mem_append_right _ (List.mem_append_right _ (List.mem_append_right _ (List.mem_append_right _ (List.mem_append_right _ (List.mem_append_right _ (List.mem_append_right _ (List.mem_append_right _ (List.mem_append_right _ (List.mem_append_right _ (List.mem_append_right _ (List.mem_append_right _ (List.mem_append_right _ (List.mem_append_right _ (List.mem_append_right _ (List.mem_append_right _ (List.mem_append_right _ (List.mem_append_right _ (List.mem_append_right _ (List.mem_append_right _ (List.mem_append_right _ (List.mem_append_right _ (List.mem_append_right _ (List.mem_append_right _ (List.mem_append_right _ (List.mem_append_right _ (List.mem_append_right _ (List.mem_append_right _ (List.mem_append_right _ (List.mem_append_left _ h)))))))))))))))))))))))))))))))))))))))
theorem zs33 : ∀ w ∈ wsL_law_r33, w ∈ wsL_law := fun _ h => List.mem_append_left _ (List.mem_append_left _ (List.mem_append_left _ (List.mem_append_left _ (List.mem_append_left _ (List.mem_append_left _ (List.mem_append_left _ (List.mem_append_left _ (List.mem_append_right _ (List.mem_append_right _ (List.mem_append_right _ (List.mem_append_right _ (List.mem_append_right _ (List.mem_append_right _ (List.mem_append_right _ (List.mem_append_right _ (List.mem_append_right _ (List.mem_append_right _ (List.mem_append_right _ (List.mem_append_right _ (List.mem_append_right _ (List.mem_append_right _ (List.mem_append_right _ (List.mem_append_right _ (List.mem_append_right _ (List.mem_append_right _ (List.mem_append_right _ (List.mem_append_right _ (List.mem_append_right _ (List.mem_append_right _ (List.mem_append_right _ (List.mem_append_right _ (List.mem_append_right _ (List.mem_append_right _ (List.mem_append_right _ (List.mem_append_right _ (List.mem_append_right _ (List.mem_append_right _ (List.mem_append_right _ (List.mem_append_right _ (List.mem_append_left _ h))))))))))))))))))))))))))))))))))))))))
theorem zs34 : ∀ w ∈ wsL_law_r34, w ∈ wsL_law := fun _ h => List.mem_append_left _ (List.mem_append_left _ (List.mem_append_left _ (List.mem_append_left _ (List.mem_append_left _ (List.mem_append_left _ (List.mem_append_left _ (List.mem_append_left _ (List.mem_append_right _ (List.mem_append_right _ (List.mem_append_right _ (List.mem_append_right _ (List.mem_append_right _ (List.mem_append_right _ (List.mem_append_right _ (List.mem_append_right _ (List.mem_append_right _ (List.mem_append_right _ (List.mem_append_right _ (List.mem_append_right _ (List.mem_append_right _ (List.mem_append_right _ (List.mem_append_right _ (List.mem_append_right _ (List.mem_append_right _ (List.mem_append_right _ (List.mem_append_right _ (List.mem_append_right _ (List.mem_append_right _ (List.mem_append_right _ (List.mem_append_right _ (List.mem_append_right _ (List.mem_append_right _ (List.mem_append_right _ (List.mem_append_right _ (List.mem_append_right _ (List.mem_append_right _ (List.mem_append_right _ (List.mem_append_right _ (List.mem_append_right _ (List.mem_append_right _ (List.mem_append_left _ h)))))))))))))))))))))))))))))))))))))))))
theorem zs35 : ∀ w ∈ wsL_law_r35, w ∈ wsL_law := fun _ h => List.mem_append_left _ (List.mem_append_left _ (List.mem_append_left _ (List.mem_append_left _ (List.mem_append_left _ (List.mem_append_left _ (List.mem_append_left _ (List.mem_append_left _ (List.mem_append_right _ (List.mem_append_right _ (List.mem_append_right _ (List.mem_append_right _ (List.mem_append_right _ (List.mem_append_right _ (List.mem_append_right _ (List.mem_append_right _ (List.mem_append_right _ (List.mem_append_right _ (List.mem_append_right _ (List.mem_append_right _ (List.mem_append_right _ (List.mem_append_right _ (List.mem_append_right _ (List.mem_append_right _ (List.mem_append_right _ (List.mem_append_right _ (List.mem_append_right _ (List.mem_append_right _ (List.mem_append_right _ (List.mem_append_right _ (List.mem_append_right _ (List.mem_append_right _ (List.mem_append_right _ (List.mem_append_right _ (List.mem_append_right _ (List.mem_append_right _ (List.mem_append_right _ (List.mem_append_right _ (List.mem_append_right _ (List.mem_append_right _ (List.mem_append_right _ (List.mem_append_right _ (List.mem_append_left _ h))))))))))))))))))))))))))))))))))))))))))
theorem zs36 : ∀ w ∈ wsL_law_r36, w ∈ wsL_law := fun _ h => List.mem_append_left _ (List.mem_append_left _ (List.mem_append_left _ (List.mem_append_left _ (List.mem_append_left _ (List.mem_append_left _ (List.mem_append_left _ (List.mem_append_left _ (List.mem_append_right _ (List.mem_append_right _ (List.mem_append_right _ (List.mem_append_right _ (List.mem_append_right _ (List.mem_append_right _ (List.mem_append_right _ (List.mem_append_right _ (List.mem_append_right _ (List.mem_append_right _ (List.mem_append_right _ (List.mem_append_right _ (List.mem_append_right _ (List.mem_append_right _ (List.mem_append_right _ (List.mem_append_right _ (List.mem_append_right _ (List.mem_append_right _ (List.mem_append_right _ (List.mem_append_right _ (List.mem_append_right _ (List.mem_append_right _ (List.mem_append_right _ (List.mem_append_right _ (List.mem_append_right _ (List.mem_append_right _ (List.mem_append_right _ (List.mem_append_right _ (List.mem_append_right _ (List.mem_append_right _ (List.mem_append_right _ (List.mem_append_right _ (List.mem_append_right _ (List.mem_append_right _ (List.mem_append_right _ (List.mem_append_left _ h)))))))))))))))))))))))))))))))))))))))))))
theorem zs37 : ∀ w ∈ wsL_law_r37, w ∈ wsL_law := fun _ h => List.mem_append_left _ (List.mem_append_left _ (List.mem_append_left _ (List.mem_append_left _ (List.mem_append_left _ (List.mem_append_left _ (List.mem_append_left _ (List.mem_append_left _ (List.mem_append_right _ (List.mem_append_right _ (List.mem_append_right _ (List.mem_append_right _ (List.mem_append_right _ (List.mem_append_right _ (List.mem_append_right _ (List.mem_append_right _ (List.mem_append_right _ (List.mem_append_right _ (List.mem_append_right _ (List.mem_append_right _ (List.mem_append_right _ (List.mem_append_right _ (List.mem_append_right _ (List.mem_append_right _ (List.mem_append_right _ (List.mem_append_right _ (List.mem_append_right _ (List.mem_append_right _ (List.mem_append_right _ (List.mem_append_right _ (List.mem_append_right _ (List.mem_append_right _ (List.mem_append_right _ (List.mem_append_right _ (List.mem_append_right _ (List.mem_append_right _ (List.mem_append_right _ (List.mem_append_right _ (List.mem_append_right _ (List.mem_append_right _ (List.mem_append_right _ (List.mem_append_right _ (List.mem_append_right _ (List.mem_append_right _ (List.mem_append_left _ h))))))))))))))))))))))))))))))))))))))))))))
theorem zs38 : ∀ w ∈ wsL_law_r38, w ∈ wsL_law := fun _ h => List.mem_append_left _ (List.mem_append_left _ (List.mem_append_left _ (List.mem_append_left _ (List.mem_append_left _ (List.mem_append_left _ (List.mem_append_left _ (List.mem_append_left _ (List.mem_append_right _ (List.mem_append_right _ (List.mem_append_right _ (List.mem_append_right _ (List.mem_append_right _ (List.mem_append_right _ (List.mem_append_right _ (List.mem_append_right _ (List.mem_append_right _ (List.mem_append_right _ (List.mem_append_right _ (List.mem_append_right _ (List.mem_append_right _ (List.mem_append_right _ (List.mem_append_right _ (List.mem_append_right _ (List.mem_append_right _ (List.mem_append_right _ (List.mem_append_right _ (List.mem_append_right _ (List.mem_append_right _ (List.mem_append_right _ (List.mem_append_right _ (List.mem_append_right _ (List.mem_append_right _ (List.mem_append_right _ (List.mem_append_right _ (List.mem_append_right _ (List.mem_append_right _ (List.mem_append_right _ (List.mem_append_right _ (List.mem_append_right _ (List.mem_append_right _ (List.mem_append_right _ (List.mem_append_right _ (List.mem_append_right _ (List.mem_append_right _ (List.mem_append_left _ h)))))))))))))))))))))))))))))))))))))))))))))
theorem zs39 : ∀ w ∈ wsL_law_r39, w ∈ wsL_law := fun _ h => List.mem_append_left _ (List.mem_append_left _ (List.mem_append_left _ (List.mem_append_left _ (List.mem_append_left _ (List.mem_append_left _ (List.mem_append_left _ (List.mem_append_left _ (List.mem_append_right _ (List.mem_append_right _ (List.mem_append_right _ (List.mem_append_right _ (List.mem_append_right _ (List.mem_append_right _ (List.mem_append_right _ (List.mem_append_right _ (List.mem_append_right _ (List.mem_append_right _ (List.mem_append_right _ (List.mem_append_right _ (List.mem_append_right _ (List.mem_append_right _ (List.mem_append_right _ (List.mem_append_right _ (List.mem_append_right _ (List.mem_append_right _ (List.mem_append_right _ (List.mem_append_right _ (List.mem_append_right _ (List.mem_append_right _ (List.mem_append_right _ (List.mem_append_right _ (List.mem_append_right _ (List.mem_append_right _ (List.mem_append_right _ (List.mem_append_right _ (List.mem_append_right _ (List.mem_append_right _ (List.mem_append_right _ (List.mem_append_right _ (List.mem_append_right _ (List.mem_append_right _ (List.mem_append_right _ (List.mem_append_right _ (List.mem_append_right _ (List.mem_append_right _ (List.mem_append_left _ h))))))))))))))))))))))))))))))))))))))))))))))
theorem zs40 : ∀ w ∈ wsL_law_r40, w ∈ wsL_law := fun _ h => List.mem_append_left _ (List.mem_append_left _ (List.mem_append_left _ (List.mem_append_left _ (List.mem_append_left _ (List.mem_append_left _ (List.mem_append_left _ (List.mem_append_left _ (List.mem_append_right _ (List.mem_append_right _ (List.mem_append_right _ (List.mem_append_right _ (List.mem_append_right _ (List.mem_append_right _ (List.mem_append_right _ (List.mem_append_right _ (List.mem_append_right _ (List.mem_append_right _ (List.mem_append_right _ (List.mem_append_right _ (List.mem_append_right _ (List.mem_append_right _ (List.mem_append_right _ (List.mem_append_right _ (List.mem_append_right _ (List.mem_append_right _ (List.mem_append_right _ (List.mem_append_right _ (List.mem_append_right _ (List.mem_append_right _ (List.mem_append_right _ (List.mem_append_right _ (List.mem_append_right _ (List.mem_append_right _ (List.mem_append_right _ (List.mem_append_right _ (List.mem_append_right _ (List.mem_append_right _ (List.mem_append_right _ (List.mem_append_right _ (List.mem_append_right _ (List.mem_append_right _ (List.mem_append_right _ (List.mem_append_right _ (List.mem_append_right _ (List.mem_append_right _ (List.mem_append_right _ (List.mem_append_left _ h)))))))))))))))))))))))))))))))))))))))))))))))
theorem zs41 : ∀ w ∈ wsL_law_r41, w ∈ wsL_law := fun _ h => List.mem_append_left _ (List.mem_append_left _ (List.mem_append_left _ (List.mem_append_left _ (List.mem_append_left _ (List.mem_append_left _ (List.mem_append_left _ (List.mem_append_left _ (List.mem_append_right _ (List.mem_append_right _ (List.mem_append_right _ (List.mem_append_right _ (List.mem_append_right _ (List.mem_append_right _ (List.mem_append_right _ (List.mem_append_right _ (List.mem_append_right _ (List.mem_append_right _ (List.mem_append_right _ (List.mem_append_right _ (List.mem_append_right _ (List.mem_append_right _ (List.mem_append_right _ (List.mem_append_right _ (List.mem_append_right _ (List.mem_append_right _ (List.mem_append_right _ (List.mem_append_right _ (List.mem_append_right _ (List.mem_append_right _ (List.mem_append_right _ (List.mem_append_right _ (List.mem_append_right _ (List.mem_append_right _ (List.mem_append_right _ (List.mem_append_right _ (List.mem_append_right _ (List.mem_append_right _ (List.mem_append_right _ (List.mem_append_right _ (List.mem_append_right _ (List.mem_append_right _ (List.mem_append_right _ (List.mem_append_right _ (List.mem_append_right _ (List.mem_append_right _ (List.mem_append_right _ (List.mem_append_right _ (h))))))))))))))))))))))))))))))))))))))))))))))))
end
section
theorem dJ0_length_8abf5_0 : decode cJ0_length_8abf5 0 = .ok (.aload_n 0, 1) := by decide +kernel
theorem dJ0_length_8abf5_1 : decode cJ0_length_8abf5 1 = .ok (.getfield 9, 3) := by decide +kernel
theorem dJ0_length_8abf5_4 : decode cJ0_length_8abf5 4 = .ok (.arraylength, 1) := by decide +kernel
theorem dJ0_length_8abf5_5 : decode cJ0_length_8abf5 5 = .ok (.aload_n 0, 1) := by decide +kernel
theorem dJ0_length_8abf5_6 : decode cJ0_length_8abf5 6 = .ok (.invokevirtual 335, 3) := by decide +kernel
theorem dJ0_length_8abf5_9 : decode cJ0_length_8abf5 9 = .ok (.ishr, 1) := by decide +kernel
theorem dJ0_length_8abf5_10 : decode cJ0_length_8abf5 10 = .ok (.ireturn, 1) := by decide +kernel
theorem dJ0_charAt_5068e_0 : decode cJ0_charAt_5068e 0 = .ok (.aload_n 0, 1) := by decide +kernel
theorem dJ0_charAt_5068e_1 : decode cJ0_charAt_5068e 1 = .ok (.invokevirtual 492, 3) := by decide +kernel
theorem dJ0_charAt_5068e_4 : decode cJ0_charAt_5068e 4 = .ok (.ifCond .eq 12, 3) := by decide +kernel
theorem dJ0_charAt_5068e_7 : decode cJ0_charAt_5068e 7 = .ok (.aload_n 0, 1) := by decide +kernel
theorem dJ0_charAt_5068e_8 : decode cJ0_charAt_5068e 8 = .ok (.getfield 9, 3) := by decide +kernel
theorem dJ0_charAt_5068e_11 : decode cJ0_charAt_5068e 11 = .ok (.iload_n 1, 1) := by decide +kernel
theorem dJ0_charAt_5068e_12 : decode cJ0_charAt_5068e 12 = .ok (.invokestatic 495, 3) := by decide +kernel
theorem dJ0_charAt_5068e_15 : decode cJ0_charAt_5068e 15 = .ok (.ireturn, 1) := by decide +kernel
theorem dJ0_charAt_5068e_16 : decode cJ0_charAt_5068e 16 = .ok (.aload_n 0, 1) := by decide +kernel
theorem dJ0_charAt_5068e_17 : decode cJ0_charAt_5068e 17 = .ok (.getfield 9, 3) := by decide +kernel
theorem dJ0_charAt_5068e_20 : decode cJ0_charAt_5068e 20 = .ok (.iload_n 1, 1) := by decide +kernel
theorem dJ0_charAt_5068e_21 : decode cJ0_charAt_5068e 21 = .ok (.invokestatic 498, 3) := by decide +kernel
theorem dJ0_charAt_5068e_24 : decode cJ0_charAt_5068e 24 = .ok (.ireturn, 1) := by decide +kernel
theorem dJ0_coder_7d493_0 : decode cJ0_coder_7d493 0 = .ok (.getstatic 38, 3) := by decide +kernel
theorem dJ0_coder_7d493_3 : decode cJ0_coder_7d493 3 = .ok (.ifCond .eq 10, 3) := by decide +kernel
theorem dJ0_coder_7d493_6 : decode cJ0_coder_7d493 6 = .ok (.aload_n 0, 1) := by decide +kernel
theorem dJ0_coder_7d493_7 : decode cJ0_coder_7d493 7 = .ok (.getfield 15, 3) := by decide +kernel
theorem dJ0_coder_7d493_10 : decode cJ0_coder_7d493 10 = .ok (.goto 4, 3) := by decide +kernel
theorem dJ0_coder_7d493_13 : decode cJ0_coder_7d493 13 = .ok (.iconst 1, 1) := by decide +kernel
theorem dJ0_coder_7d493_14 : decode cJ0_coder_7d493 14 = .ok (.ireturn, 1) := by decide +kernel
theorem dJ0_isLatin1_aae02_0 : decode cJ0_isLatin1_aae02 0 = .ok (.getstatic 38, 3) := by decide +kernel
theorem dJ0_isLatin1_aae02_3 : decode cJ0_isLatin1_aae02 3 = .ok (.ifCond .eq 14, 3) := by decide +kernel
theorem dJ0_isLatin1_aae02_6 : decode cJ0_isLatin1_aae02 6 = .ok (.aload_n 0, 1) := by decide +kernel
theorem dJ0_isLatin1_aae02_7 : decode cJ0_isLatin1_aae02 7 = .ok (.getfield 15, 3) := by decide +kernel
theorem dJ0_isLatin1_aae02_10 : decode cJ0_isLatin1_aae02 10 = .ok (.ifCond .ne 7, 3) := by decide +kernel
theorem dJ0_isLatin1_aae02_13 : decode cJ0_isLatin1_aae02 13 = .ok (.iconst 1, 1) := by decide +kernel
theorem dJ0_isLatin1_aae02_14 : decode cJ0_isLatin1_aae02 14 = .ok (.goto 4, 3) := by decide +kernel
theorem dJ0_isLatin1_aae02_17 : decode cJ0_isLatin1_aae02 17 = .ok (.iconst 0, 1) := by decide +kernel
theorem dJ0_isLatin1_aae02_18 : decode cJ0_isLatin1_aae02 18 = .ok (.ireturn, 1) := by decide +kernel
theorem dJ0_checkIndex_df160_0 : decode cJ0_checkIndex_df160 0 = .ok (.iload_n 0, 1) := by decide +kernel
theorem dJ0_checkIndex_df160_1 : decode cJ0_checkIndex_df160 1 = .ok (.iload_n 1, 1) := by decide +kernel
theorem dJ0_checkIndex_df160_2 : decode cJ0_checkIndex_df160 2 = .ok (.getstatic 1053, 3) := by decide +kernel
theorem dJ0_checkIndex_df160_5 : decode cJ0_checkIndex_df160 5 = .ok (.invokestatic 1059, 3) := by decide +kernel
theorem dJ0_checkIndex_df160_8 : decode cJ0_checkIndex_df160 8 = .ok (.pop, 1) := by decide +kernel
theorem dJ0_checkIndex_df160_9 : decode cJ0_checkIndex_df160 9 = .ok (.return_, 1) := by decide +kernel
end
section
theorem dJ1_charAt_3b067_0 : decode cJ1_charAt_3b067 0 = .ok (.iload_n 1, 1) := by decide +kernel
theorem dJ1_charAt_3b067_1 : decode cJ1_charAt_3b067 1 = .ok (.aload_n 0, 1) := by decide +kernel
theorem dJ1_charAt_3b067_2 : decode cJ1_charAt_3b067 2 = .ok (.arraylength, 1) := by decide +kernel
theorem dJ1_charAt_3b067_3 : decode cJ1_charAt_3b067 3 = .ok (.invokestatic 9, 3) := by decide +kernel
theorem dJ1_charAt_3b067_6 : decode cJ1_charAt_3b067 6 = .ok (.aload_n 0, 1) := by decide +kernel
theorem dJ1_charAt_3b067_7 : decode cJ1_charAt_3b067 7 = .ok (.iload_n 1, 1) := by decide +kernel
theorem dJ1_charAt_3b067_8 : decode cJ1_charAt_3b067 8 = .ok (.baload, 1) := by decide +kernel
theorem dJ1_charAt_3b067_9 : decode cJ1_charAt_3b067 9 = .ok (.sipush 255, 3) := by decide +kernel
theorem dJ1_charAt_3b067_12 : decode cJ1_charAt_3b067 12 = .ok (.iand, 1) := by decide +kernel
theorem dJ1_charAt_3b067_13 : decode cJ1_charAt_3b067 13 = .ok (.i2c, 1) := by decide +kernel
theorem dJ1_charAt_3b067_14 : decode cJ1_charAt_3b067 14 = .ok (.ireturn, 1) := by decide +kernel
end
section
theorem dJ2_getChar_3b067_0 : decode cJ2_getChar_3b067 0 = .ok (.getstatic 44, 3) := by decide +kernel
theorem dJ2_getChar_3b067_3 : decode cJ2_getChar_3b067 3 = .ok (.ifCond .ne 25, 3) := by decide +kernel
theorem dJ2_getChar_3b067_6 : decode cJ2_getChar_3b067 6 = .ok (.iload_n 1, 1) := by decide +kernel
theorem dJ2_getChar_3b067_7 : decode cJ2_getChar_3b067 7 = .ok (.ifCond .lt 11, 3) := by decide +kernel
theorem dJ2_getChar_3b067_10 : decode cJ2_getChar_3b067 10 = .ok (.iload_n 1, 1) := by decide +kernel
theorem dJ2_getChar_3b067_11 : decode cJ2_getChar_3b067 11 = .ok (.aload_n 0, 1) := by decide +kernel
theorem dJ2_getChar_3b067_12 : decode cJ2_getChar_3b067 12 = .ok (.invokestatic 48, 3) := by decide +kernel
theorem dJ2_getChar_3b067_15 : decode cJ2_getChar_3b067 15 = .ok (.if_icmp .lt 13, 3) := by decide +kernel
theorem dJ2_getChar_3b067_18 : decode cJ2_getChar_3b067 18 = .ok (.new 52, 3) := by decide +kernel
theorem dJ2_getChar_3b067_21 : decode cJ2_getChar_3b067 21 = .ok (.dup, 1) := by decide +kernel
theorem dJ2_getChar_3b067_22 : decode cJ2_getChar_3b067 22 = .ok (.ldc 54, 2) := by decide +kernel
theorem dJ2_getChar_3b067_24 : decode cJ2_getChar_3b067 24 = .ok (.invokespecial 56, 3) := by decide +kernel
theorem dJ2_getChar_3b067_27 : decode cJ2_getChar_3b067 27 = .ok (.athrow, 1) := by decide +kernel
theorem dJ2_getChar_3b067_28 : decode cJ2_getChar_3b067 28 = .ok (.iload_n 1, 1) := by decide +kernel
theorem dJ2_getChar_3b067_29 : decode cJ2_getChar_3b067 29 = .ok (.iconst 1, 1) := by decide +kernel
theorem dJ2_getChar_3b067_30 : decode cJ2_getChar_3b067 30 = .ok (.ishl, 1) := by decide +kernel
theorem dJ2_getChar_3b067_31 : decode cJ2_getChar_3b067 31 = .ok (.istore_n 1, 1) := by decide +kernel
theorem dJ2_getChar_3b067_32 : decode cJ2_getChar_3b067 32 = .ok (.aload_n 0, 1) := by decide +kernel
theorem dJ2_getChar_3b067_33 : decode cJ2_getChar_3b067 33 = .ok (.iload_n 1, 1) := by decide +kernel
theorem dJ2_getChar_3b067_34 : decode cJ2_getChar_3b067 34 = .ok (.iinc 1 1, 3) := by decide +kernel
theorem dJ2_getChar_3b067_37 : decode cJ2_getChar_3b067 37 = .ok (.baload, 1) := by decide +kernel
theorem dJ2_getChar_3b067_38 : decode cJ2_getChar_3b067 38 = .ok (.sipush 255, 3) := by decide +kernel
theorem dJ2_getChar_3b067_41 : decode cJ2_getChar_3b067 41 = .ok (.iand, 1) := by decide +kernel
theorem dJ2_getChar_3b067_42 : decode cJ2_getChar_3b067 42 = .ok (.getstatic 59, 3) := by decide +kernel
theorem dJ2_getChar_3b067_45 : decode cJ2_getChar_3b067 45 = .ok (.ishl, 1) := by decide +kernel
theorem dJ2_getChar_3b067_46 : decode cJ2_getChar_3b067 46 = .ok (.aload_n 0, 1) := by decide +kernel
theorem dJ2_getChar_3b067_47 : decode cJ2_getChar_3b067 47 = .ok (.iload_n 1, 1) := by decide +kernel
theorem dJ2_getChar_3b067_48 : decode cJ2_getChar_3b067 48 = .ok (.baload, 1) := by decide +kernel
theorem dJ2_getChar_3b067_49 : decode cJ2_getChar_3b067 49 = .ok (.sipush 255, 3) := by decide +kernel
theorem dJ2_getChar_3b067_52 : decode cJ2_getChar_3b067 52 = .ok (.iand, 1) := by decide +kernel
theorem dJ2_getChar_3b067_53 : decode cJ2_getChar_3b067 53 = .ok (.getstatic 63, 3) := by decide +kernel
theorem dJ2_getChar_3b067_56 : decode cJ2_getChar_3b067 56 = .ok (.ishl, 1) := by decide +kernel
theorem dJ2_getChar_3b067_57 : decode cJ2_getChar_3b067 57 = .ok (.ior, 1) := by decide +kernel
theorem dJ2_getChar_3b067_58 : decode cJ2_getChar_3b067 58 = .ok (.i2c, 1) := by decide +kernel
theorem dJ2_getChar_3b067_59 : decode cJ2_getChar_3b067 59 = .ok (.ireturn, 1) := by decide +kernel
theorem dJ2_length_9d52b_0 : decode cJ2_length_9d52b 0 = .ok (.aload_n 0, 1) := by decide +kernel
theorem dJ2_length_9d52b_1 : decode cJ2_length_9d52b 1 = .ok (.arraylength, 1) := by decide +kernel
theorem dJ2_length_9d52b_2 : decode cJ2_length_9d52b 2 = .ok (.iconst 1, 1) := by decide +kernel
theorem dJ2_length_9d52b_3 : decode cJ2_length_9d52b 3 = .ok (.ishr, 1) := by decide +kernel
theorem dJ2_length_9d52b_4 : decode cJ2_length_9d52b 4 = .ok (.ireturn, 1) := by decide +kernel
theorem dJ2_charAt_3b067_0 : decode cJ2_charAt_3b067 0 = .ok (.iload_n 1, 1) := by decide +kernel
theorem dJ2_charAt_3b067_1 : decode cJ2_charAt_3b067 1 = .ok (.aload_n 0, 1) := by decide +kernel
theorem dJ2_charAt_3b067_2 : decode cJ2_charAt_3b067 2 = .ok (.invokestatic 67, 3) := by decide +kernel
theorem dJ2_charAt_3b067_5 : decode cJ2_charAt_3b067 5 = .ok (.aload_n 0, 1) := by decide +kernel
theorem dJ2_charAt_3b067_6 : decode cJ2_charAt_3b067 6 = .ok (.iload_n 1, 1) := by decide +kernel
theorem dJ2_charAt_3b067_7 : decode cJ2_charAt_3b067 7 = .ok (.invokestatic 71, 3) := by decide +kernel
theorem dJ2_charAt_3b067_10 : decode cJ2_charAt_3b067 10 = .ok (.ireturn, 1) := by decide +kernel
theorem dJ2_checkIndex_2214a_0 : decode cJ2_checkIndex_2214a 0 = .ok (.iload_n 0, 1) := by decide +kernel
theorem dJ2_checkIndex_2214a_1 : decode cJ2_checkIndex_2214a 1 = .ok (.aload_n 1, 1) := by decide +kernel
theorem dJ2_checkIndex_2214a_2 : decode cJ2_checkIndex_2214a 2 = .ok (.invokestatic 48, 3) := by decide +kernel
theorem dJ2_checkIndex_2214a_5 : decode cJ2_checkIndex_2214a 5 = .ok (.invokestatic 414, 3) := by decide +kernel
theorem dJ2_checkIndex_2214a_8 : decode cJ2_checkIndex_2214a 8 = .ok (.return_, 1) := by decide +kernel
end
section
theorem dJ3_checkIndex_8e157_0 : decode cJ3_checkIndex_8e157 0 = .ok (.iload_n 0, 1) := by decide +kernel
theorem dJ3_checkIndex_8e157_1 : decode cJ3_checkIndex_8e157 1 = .ok (.ifCond .lt 8, 3) := by decide +kernel
theorem dJ3_checkIndex_8e157_4 : decode cJ3_checkIndex_8e157 4 = .ok (.iload_n 0, 1) := by decide +kernel
theorem dJ3_checkIndex_8e157_5 : decode cJ3_checkIndex_8e157 5 = .ok (.iload_n 1, 1) := by decide +kernel
theorem dJ3_checkIndex_8e157_6 : decode cJ3_checkIndex_8e157 6 = .ok (.if_icmp .lt 10, 3) := by decide +kernel
theorem dJ3_checkIndex_8e157_9 : decode cJ3_checkIndex_8e157 9 = .ok (.aload_n 2, 1) := by decide +kernel
theorem dJ3_checkIndex_8e157_10 : decode cJ3_checkIndex_8e157 10 = .ok (.iload_n 0, 1) := by decide +kernel
theorem dJ3_checkIndex_8e157_11 : decode cJ3_checkIndex_8e157 11 = .ok (.iload_n 1, 1) := by decide +kernel
theorem dJ3_checkIndex_8e157_12 : decode cJ3_checkIndex_8e157 12 = .ok (.invokestatic 95, 3) := by decide +kernel
theorem dJ3_checkIndex_8e157_15 : decode cJ3_checkIndex_8e157 15 = .ok (.athrow, 1) := by decide +kernel
theorem dJ3_checkIndex_8e157_16 : decode cJ3_checkIndex_8e157 16 = .ok (.iload_n 0, 1) := by decide +kernel
theorem dJ3_checkIndex_8e157_17 : decode cJ3_checkIndex_8e157 17 = .ok (.ireturn, 1) := by decide +kernel
end
section
theorem dJ9_max_7cf53_0 : decode cJ9_max_7cf53 0 = .ok (.iload_n 0, 1) := by decide +kernel
theorem dJ9_max_7cf53_1 : decode cJ9_max_7cf53 1 = .ok (.iload_n 1, 1) := by decide +kernel
theorem dJ9_max_7cf53_2 : decode cJ9_max_7cf53 2 = .ok (.if_icmp .lt 7, 3) := by decide +kernel
theorem dJ9_max_7cf53_5 : decode cJ9_max_7cf53 5 = .ok (.iload_n 0, 1) := by decide +kernel
theorem dJ9_max_7cf53_6 : decode cJ9_max_7cf53 6 = .ok (.goto 4, 3) := by decide +kernel
theorem dJ9_max_7cf53_9 : decode cJ9_max_7cf53 9 = .ok (.iload_n 1, 1) := by decide +kernel
theorem dJ9_max_7cf53_10 : decode cJ9_max_7cf53 10 = .ok (.ireturn, 1) := by decide +kernel
theorem dJ9_min_7cf53_0 : decode cJ9_min_7cf53 0 = .ok (.iload_n 0, 1) := by decide +kernel
theorem dJ9_min_7cf53_1 : decode cJ9_min_7cf53 1 = .ok (.iload_n 1, 1) := by decide +kernel
theorem dJ9_min_7cf53_2 : decode cJ9_min_7cf53 2 = .ok (.if_icmp .gt 7, 3) := by decide +kernel
theorem dJ9_min_7cf53_5 : decode cJ9_min_7cf53 5 = .ok (.iload_n 0, 1) := by decide +kernel
theorem dJ9_min_7cf53_6 : decode cJ9_min_7cf53 6 = .ok (.goto 4, 3) := by decide +kernel
theorem dJ9_min_7cf53_9 : decode cJ9_min_7cf53 9 = .ok (.iload_n 1, 1) := by decide +kernel
theorem dJ9_min_7cf53_10 : decode cJ9_min_7cf53 10 = .ok (.ireturn, 1) := by decide +kernel
end
section
theorem dL_law_0 : decode cL_law 0 = .ok (.new 7, 3) := by decide +kernel
theorem dL_law_3 : decode cL_law 3 = .ok (.dup, 1) := by decide +kernel
theorem dL_law_4 : decode cL_law 4 = .ok (.invokespecial 9, 3) := by decide +kernel
theorem dL_law_7 : decode cL_law 7 = .ok (.astore_n 1, 1) := by decide +kernel
theorem dL_law_8 : decode cL_law 8 = .ok (.new 10, 3) := by decide +kernel
theorem dL_law_11 : decode cL_law 11 = .ok (.dup, 1) := by decide +kernel
theorem dL_law_12 : decode cL_law 12 = .ok (.invokespecial 12, 3) := by decide +kernel
theorem dL_law_15 : decode cL_law 15 = .ok (.astore_n 2, 1) := by decide +kernel
theorem dL_law_16 : decode cL_law 16 = .ok (.iconst 0, 1) := by decide +kernel
theorem dL_law_17 : decode cL_law 17 = .ok (.istore_n 3, 1) := by decide +kernel
theorem dL_law_18 : decode cL_law 18 = .ok (.iload_n 3, 1) := by decide +kernel
theorem dL_law_19 : decode cL_law 19 = .ok (.aload_n 0, 1) := by decide +kernel
theorem dL_law_20 : decode cL_law 20 = .ok (.arraylength, 1) := by decide +kernel
theorem dL_law_21 : decode cL_law 21 = .ok (.bipush 6, 2) := by decide +kernel
theorem dL_law_23 : decode cL_law 23 = .ok (.isub, 1) := by decide +kernel
theorem dL_law_24 : decode cL_law 24 = .ok (.if_icmp .gt 1173, 3) := by decide +kernel
theorem dL_law_27 : decode cL_law 27 = .ok (.aload_n 0, 1) := by decide +kernel
theorem dL_law_28 : decode cL_law 28 = .ok (.iload_n 3, 1) := by decide +kernel
theorem dL_law_29 : decode cL_law 29 = .ok (.iaload, 1) := by decide +kernel
theorem dL_law_30 : decode cL_law 30 = .ok (.bipush 63, 2) := by decide +kernel
theorem dL_law_32 : decode cL_law 32 = .ok (.iand, 1) := by decide +kernel
theorem dL_law_33 : decode cL_law 33 = .ok (.tableswitch 1158 0 32 #[147, 190, 233, 266, 299, 332, 355, 368, 391, 414, 447, 480, 493, 516, 559, 592, 605, 628, 651, 684, 697, 721, 764, 787, 820, 874, 887, 900, 923, 966, 1009, 1072, 1125], 147) := by decide +kernel
theorem dL_law_180 : decode cL_law 180 = .ok (.aload_n 1, 1) := by decide +kernel
theorem dL_law_181 : decode cL_law 181 = .ok (.aload_n 0, 1) := by decide +kernel
theorem dL_law_182 : decode cL_law 182 = .ok (.iload_n 3, 1) := by decide +kernel
theorem dL_law_183 : decode cL_law 183 = .ok (.iconst 1, 1) := by decide +kernel
theorem dL_law_184 : decode cL_law 184 = .ok (.iadd, 1) := by decide +kernel
theorem dL_law_185 : decode cL_law 185 = .ok (.iaload, 1) := by decide +kernel
theorem dL_law_186 : decode cL_law 186 = .ok (.aload_n 0, 1) := by decide +kernel
theorem dL_law_187 : decode cL_law 187 = .ok (.iload_n 3, 1) := by decide +kernel
theorem dL_law_188 : decode cL_law 188 = .ok (.iconst 2, 1) := by decide +kernel
theorem dL_law_189 : decode cL_law 189 = .ok (.iadd, 1) := by decide +kernel
theorem dL_law_190 : decode cL_law 190 = .ok (.iaload, 1) := by decide +kernel
theorem dL_law_191 : decode cL_law 191 = .ok (.aload_n 0, 1) := by decide +kernel
theorem dL_law_192 : decode cL_law 192 = .ok (.iload_n 3, 1) := by decide +kernel
theorem dL_law_193 : decode cL_law 193 = .ok (.iconst 3, 1) := by decide +kernel
theorem dL_law_194 : decode cL_law 194 = .ok (.iadd, 1) := by decide +kernel
theorem dL_law_195 : decode cL_law 195 = .ok (.iaload, 1) := by decide +kernel
theorem dL_law_196 : decode cL_law 196 = .ok (.invokevirtual 13, 3) := by decide +kernel
theorem dL_law_199 : decode cL_law 199 = .ok (.aload_n 2, 1) := by decide +kernel
theorem dL_law_200 : decode cL_law 200 = .ok (.aload_n 0, 1) := by decide +kernel
theorem dL_law_201 : decode cL_law 201 = .ok (.iload_n 3, 1) := by decide +kernel
theorem dL_law_202 : decode cL_law 202 = .ok (.iconst 1, 1) := by decide +kernel
theorem dL_law_203 : decode cL_law 203 = .ok (.iadd, 1) := by decide +kernel
theorem dL_law_204 : decode cL_law 204 = .ok (.iaload, 1) := by decide +kernel
theorem dL_law_205 : decode cL_law 205 = .ok (.aload_n 0, 1) := by decide +kernel
theorem dL_law_206 : decode cL_law 206 = .ok (.iload_n 3, 1) := by decide +kernel
theorem dL_law_207 : decode cL_law 207 = .ok (.iconst 2, 1) := by decide +kernel
theorem dL_law_208 : decode cL_law 208 = .ok (.iadd, 1) := by decide +kernel
theorem dL_law_209 : decode cL_law 209 = .ok (.iaload, 1) := by decide +kernel
theorem dL_law_210 : decode cL_law 210 = .ok (.aload_n 0, 1) := by decide +kernel
theorem dL_law_211 : decode cL_law 211 = .ok (.iload_n 3, 1) := by decide +kernel
theorem dL_law_212 : decode cL_law 212 = .ok (.iconst 3, 1) := by decide +kernel
theorem dL_law_213 : decode cL_law 213 = .ok (.iadd, 1) := by decide +kernel
theorem dL_law_214 : decode cL_law 214 = .ok (.iaload, 1) := by decide +kernel
theorem dL_law_215 : decode cL_law 215 = .ok (.invokevirtual 17, 3) := by decide +kernel
theorem dL_law_218 : decode cL_law 218 = .ok (.if_icmp .eq 973, 3) := by decide +kernel
theorem dL_law_221 : decode cL_law 221 = .ok (.iconst 0, 1) := by decide +kernel
theorem dL_law_222 : decode cL_law 222 = .ok (.ireturn, 1) := by decide +kernel
theorem dL_law_223 : decode cL_law 223 = .ok (.aload_n 1, 1) := by decide +kernel
theorem dL_law_224 : decode cL_law 224 = .ok (.aload_n 0, 1) := by decide +kernel
theorem dL_law_225 : decode cL_law 225 = .ok (.iload_n 3, 1) := by decide +kernel
theorem dL_law_226 : decode cL_law 226 = .ok (.iconst 1, 1) := by decide +kernel
theorem dL_law_227 : decode cL_law 227 = .ok (.iadd, 1) := by decide +kernel
theorem dL_law_228 : decode cL_law 228 = .ok (.iaload, 1) := by decide +kernel
theorem dL_law_229 : decode cL_law 229 = .ok (.aload_n 0, 1) := by decide +kernel
theorem dL_law_230 : decode cL_law 230 = .ok (.iload_n 3, 1) := by decide +kernel
theorem dL_law_231 : decode cL_law 231 = .ok (.iconst 2, 1) := by decide +kernel
theorem dL_law_232 : decode cL_law 232 = .ok (.iadd, 1) := by decide +kernel
theorem dL_law_233 : decode cL_law 233 = .ok (.iaload, 1) := by decide +kernel
theorem dL_law_234 : decode cL_law 234 = .ok (.aload_n 0, 1) := by decide +kernel
theorem dL_law_235 : decode cL_law 235 = .ok (.iload_n 3, 1) := by decide +kernel
theorem dL_law_236 : decode cL_law 236 = .ok (.iconst 3, 1) := by decide +kernel
theorem dL_law_237 : decode cL_law 237 = .ok (.iadd, 1) := by decide +kernel
theorem dL_law_238 : decode cL_law 238 = .ok (.iaload, 1) := by decide +kernel
theorem dL_law_239 : decode cL_law 239 = .ok (.invokevirtual 18, 3) := by decide +kernel
theorem dL_law_242 : decode cL_law 242 = .ok (.aload_n 2, 1) := by decide +kernel
theorem dL_law_243 : decode cL_law 243 = .ok (.aload_n 0, 1) := by decide +kernel
theorem dL_law_244 : decode cL_law 244 = .ok (.iload_n 3, 1) := by decide +kernel
theorem dL_law_245 : decode cL_law 245 = .ok (.iconst 1, 1) := by decide +kernel
theorem dL_law_246 : decode cL_law 246 = .ok (.iadd, 1) := by decide +kernel
theorem dL_law_247 : decode cL_law 247 = .ok (.iaload, 1) := by decide +kernel
theorem dL_law_248 : decode cL_law 248 = .ok (.aload_n 0, 1) := by decide +kernel
theorem dL_law_249 : decode cL_law 249 = .ok (.iload_n 3, 1) := by decide +kernel
theorem dL_law_250 : decode cL_law 250 = .ok (.iconst 2, 1) := by decide +kernel
theorem dL_law_251 : decode cL_law 251 = .ok (.iadd, 1) := by decide +kernel
theorem dL_law_252 : decode cL_law 252 = .ok (.iaload, 1) := by decide +kernel
theorem dL_law_253 : decode cL_law 253 = .ok (.aload_n 0, 1) := by decide +kernel
theorem dL_law_254 : decode cL_law 254 = .ok (.iload_n 3, 1) := by decide +kernel
theorem dL_law_255 : decode cL_law 255 = .ok (.iconst 3, 1) := by decide +kernel
theorem dL_law_256 : decode cL_law 256 = .ok (.iadd, 1) := by decide +kernel
theorem dL_law_257 : decode cL_law 257 = .ok (.iaload, 1) := by decide +kernel
theorem dL_law_258 : decode cL_law 258 = .ok (.invokevirtual 21, 3) := by decide +kernel
theorem dL_law_261 : decode cL_law 261 = .ok (.if_icmp .eq 930, 3) := by decide +kernel
theorem dL_law_264 : decode cL_law 264 = .ok (.iconst 0, 1) := by decide +kernel
theorem dL_law_265 : decode cL_law 265 = .ok (.ireturn, 1) := by decide +kernel
theorem dL_law_266 : decode cL_law 266 = .ok (.aload_n 1, 1) := by decide +kernel
theorem dL_law_267 : decode cL_law 267 = .ok (.aload_n 0, 1) := by decide +kernel
theorem dL_law_268 : decode cL_law 268 = .ok (.iload_n 3, 1) := by decide +kernel
theorem dL_law_269 : decode cL_law 269 = .ok (.iconst 1, 1) := by decide +kernel
theorem dL_law_270 : decode cL_law 270 = .ok (.iadd, 1) := by decide +kernel
theorem dL_law_271 : decode cL_law 271 = .ok (.iaload, 1) := by decide +kernel
theorem dL_law_272 : decode cL_law 272 = .ok (.aload_n 0, 1) := by decide +kernel
theorem dL_law_273 : decode cL_law 273 = .ok (.iload_n 3, 1) := by decide +kernel
theorem dL_law_274 : decode cL_law 274 = .ok (.iconst 2, 1) := by decide +kernel
theorem dL_law_275 : decode cL_law 275 = .ok (.iadd, 1) := by decide +kernel
theorem dL_law_276 : decode cL_law 276 = .ok (.iaload, 1) := by decide +kernel
theorem dL_law_277 : decode cL_law 277 = .ok (.invokevirtual 22, 3) := by decide +kernel
theorem dL_law_280 : decode cL_law 280 = .ok (.aload_n 2, 1) := by decide +kernel
theorem dL_law_281 : decode cL_law 281 = .ok (.aload_n 0, 1) := by decide +kernel
theorem dL_law_282 : decode cL_law 282 = .ok (.iload_n 3, 1) := by decide +kernel
theorem dL_law_283 : decode cL_law 283 = .ok (.iconst 1, 1) := by decide +kernel
theorem dL_law_284 : decode cL_law 284 = .ok (.iadd, 1) := by decide +kernel
theorem dL_law_285 : decode cL_law 285 = .ok (.iaload, 1) := by decide +kernel
theorem dL_law_286 : decode cL_law 286 = .ok (.aload_n 0, 1) := by decide +kernel
theorem dL_law_287 : decode cL_law 287 = .ok (.iload_n 3, 1) := by decide +kernel
theorem dL_law_288 : decode cL_law 288 = .ok (.iconst 2, 1) := by decide +kernel
theorem dL_law_289 : decode cL_law 289 = .ok (.iadd, 1) := by decide +kernel
theorem dL_law_290 : decode cL_law 290 = .ok (.iaload, 1) := by decide +kernel
theorem dL_law_291 : decode cL_law 291 = .ok (.invokevirtual 26, 3) := by decide +kernel
theorem dL_law_294 : decode cL_law 294 = .ok (.if_icmp .eq 897, 3) := by decide +kernel
theorem dL_law_297 : decode cL_law 297 = .ok (.iconst 0, 1) := by decide +kernel
theorem dL_law_298 : decode cL_law 298 = .ok (.ireturn, 1) := by decide +kernel
theorem dL_law_299 : decode cL_law 299 = .ok (.aload_n 1, 1) := by decide +kernel
theorem dL_law_300 : decode cL_law 300 = .ok (.aload_n 0, 1) := by decide +kernel
theorem dL_law_301 : decode cL_law 301 = .ok (.iload_n 3, 1) := by decide +kernel
theorem dL_law_302 : decode cL_law 302 = .ok (.iconst 1, 1) := by decide +kernel
theorem dL_law_303 : decode cL_law 303 = .ok (.iadd, 1) := by decide +kernel
theorem dL_law_304 : decode cL_law 304 = .ok (.iaload, 1) := by decide +kernel
theorem dL_law_305 : decode cL_law 305 = .ok (.aload_n 0, 1) := by decide +kernel
theorem dL_law_306 : decode cL_law 306 = .ok (.iload_n 3, 1) := by decide +kernel
theorem dL_law_307 : decode cL_law 307 = .ok (.iconst 2, 1) := by decide +kernel
theorem dL_law_308 : decode cL_law 308 = .ok (.iadd, 1) := by decide +kernel
theorem dL_law_309 : decode cL_law 309 = .ok (.iaload, 1) := by decide +kernel
theorem dL_law_310 : decode cL_law 310 = .ok (.invokevirtual 27, 3) := by decide +kernel
theorem dL_law_313 : decode cL_law 313 = .ok (.aload_n 2, 1) := by decide +kernel
theorem dL_law_314 : decode cL_law 314 = .ok (.aload_n 0, 1) := by decide +kernel
theorem dL_law_315 : decode cL_law 315 = .ok (.iload_n 3, 1) := by decide +kernel
theorem dL_law_316 : decode cL_law 316 = .ok (.iconst 1, 1) := by decide +kernel
theorem dL_law_317 : decode cL_law 317 = .ok (.iadd, 1) := by decide +kernel
theorem dL_law_318 : decode cL_law 318 = .ok (.iaload, 1) := by decide +kernel
theorem dL_law_319 : decode cL_law 319 = .ok (.aload_n 0, 1) := by decide +kernel
theorem dL_law_320 : decode cL_law 320 = .ok (.iload_n 3, 1) := by decide +kernel
theorem dL_law_321 : decode cL_law 321 = .ok (.iconst 2, 1) := by decide +kernel
theorem dL_law_322 : decode cL_law 322 = .ok (.iadd, 1) := by decide +kernel
theorem dL_law_323 : decode cL_law 323 = .ok (.iaload, 1) := by decide +kernel
theorem dL_law_324 : decode cL_law 324 = .ok (.invokevirtual 30, 3) := by decide +kernel
theorem dL_law_327 : decode cL_law 327 = .ok (.if_icmp .eq 864, 3) := by decide +kernel
theorem dL_law_330 : decode cL_law 330 = .ok (.iconst 0, 1) := by decide +kernel
theorem dL_law_331 : decode cL_law 331 = .ok (.ireturn, 1) := by decide +kernel
theorem dL_law_332 : decode cL_law 332 = .ok (.aload_n 1, 1) := by decide +kernel
theorem dL_law_333 : decode cL_law 333 = .ok (.aload_n 0, 1) := by decide +kernel
theorem dL_law_334 : decode cL_law 334 = .ok (.iload_n 3, 1) := by decide +kernel
theorem dL_law_335 : decode cL_law 335 = .ok (.iconst 1, 1) := by decide +kernel
theorem dL_law_336 : decode cL_law 336 = .ok (.iadd, 1) := by decide +kernel
theorem dL_law_337 : decode cL_law 337 = .ok (.iaload, 1) := by decide +kernel
theorem dL_law_338 : decode cL_law 338 = .ok (.aload_n 0, 1) := by decide +kernel
theorem dL_law_339 : decode cL_law 339 = .ok (.iload_n 3, 1) := by decide +kernel
theorem dL_law_340 : decode cL_law 340 = .ok (.iconst 2, 1) := by decide +kernel
theorem dL_law_341 : decode cL_law 341 = .ok (.iadd, 1) := by decide +kernel
theorem dL_law_342 : decode cL_law 342 = .ok (.iaload, 1) := by decide +kernel
theorem dL_law_343 : decode cL_law 343 = .ok (.invokevirtual 31, 3) := by decide +kernel
theorem dL_law_346 : decode cL_law 346 = .ok (.aload_n 2, 1) := by decide +kernel
theorem dL_law_347 : decode cL_law 347 = .ok (.aload_n 0, 1) := by decide +kernel
theorem dL_law_348 : decode cL_law 348 = .ok (.iload_n 3, 1) := by decide +kernel
theorem dL_law_349 : decode cL_law 349 = .ok (.iconst 1, 1) := by decide +kernel
theorem dL_law_350 : decode cL_law 350 = .ok (.iadd, 1) := by decide +kernel
theorem dL_law_351 : decode cL_law 351 = .ok (.iaload, 1) := by decide +kernel
theorem dL_law_352 : decode cL_law 352 = .ok (.aload_n 0, 1) := by decide +kernel
theorem dL_law_353 : decode cL_law 353 = .ok (.iload_n 3, 1) := by decide +kernel
theorem dL_law_354 : decode cL_law 354 = .ok (.iconst 2, 1) := by decide +kernel
theorem dL_law_355 : decode cL_law 355 = .ok (.iadd, 1) := by decide +kernel
theorem dL_law_356 : decode cL_law 356 = .ok (.iaload, 1) := by decide +kernel
theorem dL_law_357 : decode cL_law 357 = .ok (.invokevirtual 34, 3) := by decide +kernel
theorem dL_law_360 : decode cL_law 360 = .ok (.if_icmp .eq 831, 3) := by decide +kernel
theorem dL_law_363 : decode cL_law 363 = .ok (.iconst 0, 1) := by decide +kernel
theorem dL_law_364 : decode cL_law 364 = .ok (.ireturn, 1) := by decide +kernel
theorem dL_law_365 : decode cL_law 365 = .ok (.aload_n 1, 1) := by decide +kernel
theorem dL_law_366 : decode cL_law 366 = .ok (.aload_n 0, 1) := by decide +kernel
theorem dL_law_367 : decode cL_law 367 = .ok (.iload_n 3, 1) := by decide +kernel
theorem dL_law_368 : decode cL_law 368 = .ok (.iconst 1, 1) := by decide +kernel
theorem dL_law_369 : decode cL_law 369 = .ok (.iadd, 1) := by decide +kernel
theorem dL_law_370 : decode cL_law 370 = .ok (.iaload, 1) := by decide +kernel
theorem dL_law_371 : decode cL_law 371 = .ok (.invokevirtual 35, 3) := by decide +kernel
theorem dL_law_374 : decode cL_law 374 = .ok (.aload_n 2, 1) := by decide +kernel
theorem dL_law_375 : decode cL_law 375 = .ok (.aload_n 0, 1) := by decide +kernel
theorem dL_law_376 : decode cL_law 376 = .ok (.iload_n 3, 1) := by decide +kernel
theorem dL_law_377 : decode cL_law 377 = .ok (.iconst 1, 1) := by decide +kernel
theorem dL_law_378 : decode cL_law 378 = .ok (.iadd, 1) := by decide +kernel
theorem dL_law_379 : decode cL_law 379 = .ok (.iaload, 1) := by decide +kernel
theorem dL_law_380 : decode cL_law 380 = .ok (.invokevirtual 39, 3) := by decide +kernel
theorem dL_law_383 : decode cL_law 383 = .ok (.if_icmp .eq 808, 3) := by decide +kernel
theorem dL_law_386 : decode cL_law 386 = .ok (.iconst 0, 1) := by decide +kernel
theorem dL_law_387 : decode cL_law 387 = .ok (.ireturn, 1) := by decide +kernel
theorem dL_law_388 : decode cL_law 388 = .ok (.aload_n 1, 1) := by decide +kernel
theorem dL_law_389 : decode cL_law 389 = .ok (.invokevirtual 40, 3) := by decide +kernel
theorem dL_law_392 : decode cL_law 392 = .ok (.aload_n 2, 1) := by decide +kernel
theorem dL_law_393 : decode cL_law 393 = .ok (.invokevirtual 44, 3) := by decide +kernel
theorem dL_law_396 : decode cL_law 396 = .ok (.if_icmp .eq 795, 3) := by decide +kernel
theorem dL_law_399 : decode cL_law 399 = .ok (.iconst 0, 1) := by decide +kernel
theorem dL_law_400 : decode cL_law 400 = .ok (.ireturn, 1) := by decide +kernel
theorem dL_law_401 : decode cL_law 401 = .ok (.aload_n 1, 1) := by decide +kernel
theorem dL_law_402 : decode cL_law 402 = .ok (.aload_n 0, 1) := by decide +kernel
theorem dL_law_403 : decode cL_law 403 = .ok (.iload_n 3, 1) := by decide +kernel
theorem dL_law_404 : decode cL_law 404 = .ok (.iconst 1, 1) := by decide +kernel
theorem dL_law_405 : decode cL_law 405 = .ok (.iadd, 1) := by decide +kernel
theorem dL_law_406 : decode cL_law 406 = .ok (.iaload, 1) := by decide +kernel
theorem dL_law_407 : decode cL_law 407 = .ok (.invokevirtual 45, 3) := by decide +kernel
theorem dL_law_410 : decode cL_law 410 = .ok (.aload_n 2, 1) := by decide +kernel
theorem dL_law_411 : decode cL_law 411 = .ok (.aload_n 0, 1) := by decide +kernel
theorem dL_law_412 : decode cL_law 412 = .ok (.iload_n 3, 1) := by decide +kernel
theorem dL_law_413 : decode cL_law 413 = .ok (.iconst 1, 1) := by decide +kernel
theorem dL_law_414 : decode cL_law 414 = .ok (.iadd, 1) := by decide +kernel
theorem dL_law_415 : decode cL_law 415 = .ok (.iaload, 1) := by decide +kernel
theorem dL_law_416 : decode cL_law 416 = .ok (.invokevirtual 48, 3) := by decide +kernel
theorem dL_law_419 : decode cL_law 419 = .ok (.if_icmp .eq 772, 3) := by decide +kernel
theorem dL_law_422 : decode cL_law 422 = .ok (.iconst 0, 1) := by decide +kernel
theorem dL_law_423 : decode cL_law 423 = .ok (.ireturn, 1) := by decide +kernel
theorem dL_law_424 : decode cL_law 424 = .ok (.aload_n 1, 1) := by decide +kernel
theorem dL_law_425 : decode cL_law 425 = .ok (.aload_n 0, 1) := by decide +kernel
theorem dL_law_426 : decode cL_law 426 = .ok (.iload_n 3, 1) := by decide +kernel
theorem dL_law_427 : decode cL_law 427 = .ok (.iconst 1, 1) := by decide +kernel
theorem dL_law_428 : decode cL_law 428 = .ok (.iadd, 1) := by decide +kernel
theorem dL_law_429 : decode cL_law 429 = .ok (.iaload, 1) := by decide +kernel
theorem dL_law_430 : decode cL_law 430 = .ok (.invokevirtual 49, 3) := by decide +kernel
theorem dL_law_433 : decode cL_law 433 = .ok (.aload_n 2, 1) := by decide +kernel
theorem dL_law_434 : decode cL_law 434 = .ok (.aload_n 0, 1) := by decide +kernel
theorem dL_law_435 : decode cL_law 435 = .ok (.iload_n 3, 1) := by decide +kernel
theorem dL_law_436 : decode cL_law 436 = .ok (.iconst 1, 1) := by decide +kernel
theorem dL_law_437 : decode cL_law 437 = .ok (.iadd, 1) := by decide +kernel
theorem dL_law_438 : decode cL_law 438 = .ok (.iaload, 1) := by decide +kernel
theorem dL_law_439 : decode cL_law 439 = .ok (.invokevirtual 52, 3) := by decide +kernel
theorem dL_law_442 : decode cL_law 442 = .ok (.if_icmp .eq 749, 3) := by decide +kernel
theorem dL_law_445 : decode cL_law 445 = .ok (.iconst 0, 1) := by decide +kernel
theorem dL_law_446 : decode cL_law 446 = .ok (.ireturn, 1) := by decide +kernel
theorem dL_law_447 : decode cL_law 447 = .ok (.aload_n 1, 1) := by decide +kernel
theorem dL_law_448 : decode cL_law 448 = .ok (.aload_n 0, 1) := by decide +kernel
theorem dL_law_449 : decode cL_law 449 = .ok (.iload_n 3, 1) := by decide +kernel
theorem dL_law_450 : decode cL_law 450 = .ok (.iconst 1, 1) := by decide +kernel
theorem dL_law_451 : decode cL_law 451 = .ok (.iadd, 1) := by decide +kernel
theorem dL_law_452 : decode cL_law 452 = .ok (.iaload, 1) := by decide +kernel
theorem dL_law_453 : decode cL_law 453 = .ok (.aload_n 0, 1) := by decide +kernel
theorem dL_law_454 : decode cL_law 454 = .ok (.iload_n 3, 1) := by decide +kernel
theorem dL_law_455 : decode cL_law 455 = .ok (.iconst 2, 1) := by decide +kernel
theorem dL_law_456 : decode cL_law 456 = .ok (.iadd, 1) := by decide +kernel
theorem dL_law_457 : decode cL_law 457 = .ok (.iaload, 1) := by decide +kernel
theorem dL_law_458 : decode cL_law 458 = .ok (.invokevirtual 53, 3) := by decide +kernel
theorem dL_law_461 : decode cL_law 461 = .ok (.aload_n 2, 1) := by decide +kernel
theorem dL_law_462 : decode cL_law 462 = .ok (.aload_n 0, 1) := by decide +kernel
theorem dL_law_463 : decode cL_law 463 = .ok (.iload_n 3, 1) := by decide +kernel
theorem dL_law_464 : decode cL_law 464 = .ok (.iconst 1, 1) := by decide +kernel
theorem dL_law_465 : decode cL_law 465 = .ok (.iadd, 1) := by decide +kernel
theorem dL_law_466 : decode cL_law 466 = .ok (.iaload, 1) := by decide +kernel
theorem dL_law_467 : decode cL_law 467 = .ok (.aload_n 0, 1) := by decide +kernel
theorem dL_law_468 : decode cL_law 468 = .ok (.iload_n 3, 1) := by decide +kernel
theorem dL_law_469 : decode cL_law 469 = .ok (.iconst 2, 1) := by decide +kernel
theorem dL_law_470 : decode cL_law 470 = .ok (.iadd, 1) := by decide +kernel
theorem dL_law_471 : decode cL_law 471 = .ok (.iaload, 1) := by decide +kernel
theorem dL_law_472 : decode cL_law 472 = .ok (.invokevirtual 56, 3) := by decide +kernel
theorem dL_law_475 : decode cL_law 475 = .ok (.if_icmp .eq 716, 3) := by decide +kernel
theorem dL_law_478 : decode cL_law 478 = .ok (.iconst 0, 1) := by decide +kernel
theorem dL_law_479 : decode cL_law 479 = .ok (.ireturn, 1) := by decide +kernel
theorem dL_law_480 : decode cL_law 480 = .ok (.aload_n 1, 1) := by decide +kernel
theorem dL_law_481 : decode cL_law 481 = .ok (.aload_n 0, 1) := by decide +kernel
theorem dL_law_482 : decode cL_law 482 = .ok (.iload_n 3, 1) := by decide +kernel
theorem dL_law_483 : decode cL_law 483 = .ok (.iconst 1, 1) := by decide +kernel
theorem dL_law_484 : decode cL_law 484 = .ok (.iadd, 1) := by decide +kernel
theorem dL_law_485 : decode cL_law 485 = .ok (.iaload, 1) := by decide +kernel
theorem dL_law_486 : decode cL_law 486 = .ok (.aload_n 0, 1) := by decide +kernel
theorem dL_law_487 : decode cL_law 487 = .ok (.iload_n 3, 1) := by decide +kernel
theorem dL_law_488 : decode cL_law 488 = .ok (.iconst 2, 1) := by decide +kernel
theorem dL_law_489 : decode cL_law 489 = .ok (.iadd, 1) := by decide +kernel
theorem dL_law_490 : decode cL_law 490 = .ok (.iaload, 1) := by decide +kernel
theorem dL_law_491 : decode cL_law 491 = .ok (.invokevirtual 57, 3) := by decide +kernel
theorem dL_law_494 : decode cL_law 494 = .ok (.aload_n 2, 1) := by decide +kernel
theorem dL_law_495 : decode cL_law 495 = .ok (.aload_n 0, 1) := by decide +kernel
theorem dL_law_496 : decode cL_law 496 = .ok (.iload_n 3, 1) := by decide +kernel
theorem dL_law_497 : decode cL_law 497 = .ok (.iconst 1, 1) := by decide +kernel
theorem dL_law_498 : decode cL_law 498 = .ok (.iadd, 1) := by decide +kernel
theorem dL_law_499 : decode cL_law 499 = .ok (.iaload, 1) := by decide +kernel
theorem dL_law_500 : decode cL_law 500 = .ok (.aload_n 0, 1) := by decide +kernel
theorem dL_law_501 : decode cL_law 501 = .ok (.iload_n 3, 1) := by decide +kernel
theorem dL_law_502 : decode cL_law 502 = .ok (.iconst 2, 1) := by decide +kernel
theorem dL_law_503 : decode cL_law 503 = .ok (.iadd, 1) := by decide +kernel
theorem dL_law_504 : decode cL_law 504 = .ok (.iaload, 1) := by decide +kernel
theorem dL_law_505 : decode cL_law 505 = .ok (.invokevirtual 60, 3) := by decide +kernel
theorem dL_law_508 : decode cL_law 508 = .ok (.if_icmp .eq 683, 3) := by decide +kernel
theorem dL_law_511 : decode cL_law 511 = .ok (.iconst 0, 1) := by decide +kernel
theorem dL_law_512 : decode cL_law 512 = .ok (.ireturn, 1) := by decide +kernel
theorem dL_law_513 : decode cL_law 513 = .ok (.aload_n 1, 1) := by decide +kernel
theorem dL_law_514 : decode cL_law 514 = .ok (.invokevirtual 61, 3) := by decide +kernel
theorem dL_law_517 : decode cL_law 517 = .ok (.aload_n 2, 1) := by decide +kernel
theorem dL_law_518 : decode cL_law 518 = .ok (.invokevirtual 64, 3) := by decide +kernel
theorem dL_law_521 : decode cL_law 521 = .ok (.if_icmp .eq 670, 3) := by decide +kernel
theorem dL_law_524 : decode cL_law 524 = .ok (.iconst 0, 1) := by decide +kernel
theorem dL_law_525 : decode cL_law 525 = .ok (.ireturn, 1) := by decide +kernel
theorem dL_law_526 : decode cL_law 526 = .ok (.aload_n 1, 1) := by decide +kernel
theorem dL_law_527 : decode cL_law 527 = .ok (.aload_n 0, 1) := by decide +kernel
theorem dL_law_528 : decode cL_law 528 = .ok (.iload_n 3, 1) := by decide +kernel
theorem dL_law_529 : decode cL_law 529 = .ok (.iconst 1, 1) := by decide +kernel
theorem dL_law_530 : decode cL_law 530 = .ok (.iadd, 1) := by decide +kernel
theorem dL_law_531 : decode cL_law 531 = .ok (.iaload, 1) := by decide +kernel
theorem dL_law_532 : decode cL_law 532 = .ok (.invokevirtual 65, 3) := by decide +kernel
theorem dL_law_535 : decode cL_law 535 = .ok (.aload_n 2, 1) := by decide +kernel
theorem dL_law_536 : decode cL_law 536 = .ok (.aload_n 0, 1) := by decide +kernel
theorem dL_law_537 : decode cL_law 537 = .ok (.iload_n 3, 1) := by decide +kernel
theorem dL_law_538 : decode cL_law 538 = .ok (.iconst 1, 1) := by decide +kernel
theorem dL_law_539 : decode cL_law 539 = .ok (.iadd, 1) := by decide +kernel
theorem dL_law_540 : decode cL_law 540 = .ok (.iaload, 1) := by decide +kernel
theorem dL_law_541 : decode cL_law 541 = .ok (.invokevirtual 68, 3) := by decide +kernel
theorem dL_law_544 : decode cL_law 544 = .ok (.if_icmp .eq 647, 3) := by decide +kernel
theorem dL_law_547 : decode cL_law 547 = .ok (.iconst 0, 1) := by decide +kernel
theorem dL_law_548 : decode cL_law 548 = .ok (.ireturn, 1) := by decide +kernel
theorem dL_law_549 : decode cL_law 549 = .ok (.aload_n 1, 1) := by decide +kernel
theorem dL_law_550 : decode cL_law 550 = .ok (.aload_n 0, 1) := by decide +kernel
theorem dL_law_551 : decode cL_law 551 = .ok (.iload_n 3, 1) := by decide +kernel
theorem dL_law_552 : decode cL_law 552 = .ok (.iconst 1, 1) := by decide +kernel
theorem dL_law_553 : decode cL_law 553 = .ok (.iadd, 1) := by decide +kernel
theorem dL_law_554 : decode cL_law 554 = .ok (.iaload, 1) := by decide +kernel
theorem dL_law_555 : decode cL_law 555 = .ok (.aload_n 0, 1) := by decide +kernel
theorem dL_law_556 : decode cL_law 556 = .ok (.iload_n 3, 1) := by decide +kernel
theorem dL_law_557 : decode cL_law 557 = .ok (.iconst 2, 1) := by decide +kernel
theorem dL_law_558 : decode cL_law 558 = .ok (.iadd, 1) := by decide +kernel
theorem dL_law_559 : decode cL_law 559 = .ok (.iaload, 1) := by decide +kernel
theorem dL_law_560 : decode cL_law 560 = .ok (.aload_n 0, 1) := by decide +kernel
theorem dL_law_561 : decode cL_law 561 = .ok (.iload_n 3, 1) := by decide +kernel
theorem dL_law_562 : decode cL_law 562 = .ok (.iconst 3, 1) := by decide +kernel
theorem dL_law_563 : decode cL_law 563 = .ok (.iadd, 1) := by decide +kernel
theorem dL_law_564 : decode cL_law 564 = .ok (.iaload, 1) := by decide +kernel
theorem dL_law_565 : decode cL_law 565 = .ok (.invokevirtual 69, 3) := by decide +kernel
theorem dL_law_568 : decode cL_law 568 = .ok (.aload_n 2, 1) := by decide +kernel
theorem dL_law_569 : decode cL_law 569 = .ok (.aload_n 0, 1) := by decide +kernel
theorem dL_law_570 : decode cL_law 570 = .ok (.iload_n 3, 1) := by decide +kernel
theorem dL_law_571 : decode cL_law 571 = .ok (.iconst 1, 1) := by decide +kernel
theorem dL_law_572 : decode cL_law 572 = .ok (.iadd, 1) := by decide +kernel
theorem dL_law_573 : decode cL_law 573 = .ok (.iaload, 1) := by decide +kernel
theorem dL_law_574 : decode cL_law 574 = .ok (.aload_n 0, 1) := by decide +kernel
theorem dL_law_575 : decode cL_law 575 = .ok (.iload_n 3, 1) := by decide +kernel
theorem dL_law_576 : decode cL_law 576 = .ok (.iconst 2, 1) := by decide +kernel
theorem dL_law_577 : decode cL_law 577 = .ok (.iadd, 1) := by decide +kernel
theorem dL_law_578 : decode cL_law 578 = .ok (.iaload, 1) := by decide +kernel
theorem dL_law_579 : decode cL_law 579 = .ok (.aload_n 0, 1) := by decide +kernel
theorem dL_law_580 : decode cL_law 580 = .ok (.iload_n 3, 1) := by decide +kernel
theorem dL_law_581 : decode cL_law 581 = .ok (.iconst 3, 1) := by decide +kernel
theorem dL_law_582 : decode cL_law 582 = .ok (.iadd, 1) := by decide +kernel
theorem dL_law_583 : decode cL_law 583 = .ok (.iaload, 1) := by decide +kernel
theorem dL_law_584 : decode cL_law 584 = .ok (.invokevirtual 72, 3) := by decide +kernel
theorem dL_law_587 : decode cL_law 587 = .ok (.if_icmp .eq 604, 3) := by decide +kernel
theorem dL_law_590 : decode cL_law 590 = .ok (.iconst 0, 1) := by decide +kernel
theorem dL_law_591 : decode cL_law 591 = .ok (.ireturn, 1) := by decide +kernel
theorem dL_law_592 : decode cL_law 592 = .ok (.aload_n 1, 1) := by decide +kernel
theorem dL_law_593 : decode cL_law 593 = .ok (.aload_n 0, 1) := by decide +kernel
theorem dL_law_594 : decode cL_law 594 = .ok (.iload_n 3, 1) := by decide +kernel
theorem dL_law_595 : decode cL_law 595 = .ok (.iconst 1, 1) := by decide +kernel
theorem dL_law_596 : decode cL_law 596 = .ok (.iadd, 1) := by decide +kernel
theorem dL_law_597 : decode cL_law 597 = .ok (.iaload, 1) := by decide +kernel
theorem dL_law_598 : decode cL_law 598 = .ok (.aload_n 0, 1) := by decide +kernel
theorem dL_law_599 : decode cL_law 599 = .ok (.iload_n 3, 1) := by decide +kernel
theorem dL_law_600 : decode cL_law 600 = .ok (.iconst 2, 1) := by decide +kernel
theorem dL_law_601 : decode cL_law 601 = .ok (.iadd, 1) := by decide +kernel
theorem dL_law_602 : decode cL_law 602 = .ok (.iaload, 1) := by decide +kernel
theorem dL_law_603 : decode cL_law 603 = .ok (.invokevirtual 73, 3) := by decide +kernel
theorem dL_law_606 : decode cL_law 606 = .ok (.aload_n 2, 1) := by decide +kernel
theorem dL_law_607 : decode cL_law 607 = .ok (.aload_n 0, 1) := by decide +kernel
theorem dL_law_608 : decode cL_law 608 = .ok (.iload_n 3, 1) := by decide +kernel
theorem dL_law_609 : decode cL_law 609 = .ok (.iconst 1, 1) := by decide +kernel
theorem dL_law_610 : decode cL_law 610 = .ok (.iadd, 1) := by decide +kernel
theorem dL_law_611 : decode cL_law 611 = .ok (.iaload, 1) := by decide +kernel
theorem dL_law_612 : decode cL_law 612 = .ok (.aload_n 0, 1) := by decide +kernel
theorem dL_law_613 : decode cL_law 613 = .ok (.iload_n 3, 1) := by decide +kernel
theorem dL_law_614 : decode cL_law 614 = .ok (.iconst 2, 1) := by decide +kernel
theorem dL_law_615 : decode cL_law 615 = .ok (.iadd, 1) := by decide +kernel
theorem dL_law_616 : decode cL_law 616 = .ok (.iaload, 1) := by decide +kernel
theorem dL_law_617 : decode cL_law 617 = .ok (.invokevirtual 76, 3) := by decide +kernel
theorem dL_law_620 : decode cL_law 620 = .ok (.if_icmp .eq 571, 3) := by decide +kernel
theorem dL_law_623 : decode cL_law 623 = .ok (.iconst 0, 1) := by decide +kernel
theorem dL_law_624 : decode cL_law 624 = .ok (.ireturn, 1) := by decide +kernel
theorem dL_law_625 : decode cL_law 625 = .ok (.aload_n 1, 1) := by decide +kernel
theorem dL_law_626 : decode cL_law 626 = .ok (.invokevirtual 77, 3) := by decide +kernel
theorem dL_law_629 : decode cL_law 629 = .ok (.aload_n 2, 1) := by decide +kernel
theorem dL_law_630 : decode cL_law 630 = .ok (.invokevirtual 80, 3) := by decide +kernel
theorem dL_law_633 : decode cL_law 633 = .ok (.if_icmp .eq 558, 3) := by decide +kernel
theorem dL_law_636 : decode cL_law 636 = .ok (.iconst 0, 1) := by decide +kernel
theorem dL_law_637 : decode cL_law 637 = .ok (.ireturn, 1) := by decide +kernel
theorem dL_law_638 : decode cL_law 638 = .ok (.aload_n 1, 1) := by decide +kernel
theorem dL_law_639 : decode cL_law 639 = .ok (.aload_n 0, 1) := by decide +kernel
theorem dL_law_640 : decode cL_law 640 = .ok (.iload_n 3, 1) := by decide +kernel
theorem dL_law_641 : decode cL_law 641 = .ok (.iconst 1, 1) := by decide +kernel
theorem dL_law_642 : decode cL_law 642 = .ok (.iadd, 1) := by decide +kernel
theorem dL_law_643 : decode cL_law 643 = .ok (.iaload, 1) := by decide +kernel
theorem dL_law_644 : decode cL_law 644 = .ok (.invokevirtual 81, 3) := by decide +kernel
theorem dL_law_647 : decode cL_law 647 = .ok (.aload_n 2, 1) := by decide +kernel
theorem dL_law_648 : decode cL_law 648 = .ok (.aload_n 0, 1) := by decide +kernel
theorem dL_law_649 : decode cL_law 649 = .ok (.iload_n 3, 1) := by decide +kernel
theorem dL_law_650 : decode cL_law 650 = .ok (.iconst 1, 1) := by decide +kernel
theorem dL_law_651 : decode cL_law 651 = .ok (.iadd, 1) := by decide +kernel
theorem dL_law_652 : decode cL_law 652 = .ok (.iaload, 1) := by decide +kernel
theorem dL_law_653 : decode cL_law 653 = .ok (.invokevirtual 84, 3) := by decide +kernel
theorem dL_law_656 : decode cL_law 656 = .ok (.if_icmp .eq 535, 3) := by decide +kernel
theorem dL_law_659 : decode cL_law 659 = .ok (.iconst 0, 1) := by decide +kernel
theorem dL_law_660 : decode cL_law 660 = .ok (.ireturn, 1) := by decide +kernel
theorem dL_law_661 : decode cL_law 661 = .ok (.aload_n 1, 1) := by decide +kernel
theorem dL_law_662 : decode cL_law 662 = .ok (.aload_n 0, 1) := by decide +kernel
theorem dL_law_663 : decode cL_law 663 = .ok (.iload_n 3, 1) := by decide +kernel
theorem dL_law_664 : decode cL_law 664 = .ok (.iconst 1, 1) := by decide +kernel
theorem dL_law_665 : decode cL_law 665 = .ok (.iadd, 1) := by decide +kernel
theorem dL_law_666 : decode cL_law 666 = .ok (.iaload, 1) := by decide +kernel
theorem dL_law_667 : decode cL_law 667 = .ok (.invokevirtual 85, 3) := by decide +kernel
theorem dL_law_670 : decode cL_law 670 = .ok (.aload_n 2, 1) := by decide +kernel
theorem dL_law_671 : decode cL_law 671 = .ok (.aload_n 0, 1) := by decide +kernel
theorem dL_law_672 : decode cL_law 672 = .ok (.iload_n 3, 1) := by decide +kernel
theorem dL_law_673 : decode cL_law 673 = .ok (.iconst 1, 1) := by decide +kernel
theorem dL_law_674 : decode cL_law 674 = .ok (.iadd, 1) := by decide +kernel
theorem dL_law_675 : decode cL_law 675 = .ok (.iaload, 1) := by decide +kernel
theorem dL_law_676 : decode cL_law 676 = .ok (.invokevirtual 88, 3) := by decide +kernel
theorem dL_law_679 : decode cL_law 679 = .ok (.if_icmp .eq 512, 3) := by decide +kernel
theorem dL_law_682 : decode cL_law 682 = .ok (.iconst 0, 1) := by decide +kernel
theorem dL_law_683 : decode cL_law 683 = .ok (.ireturn, 1) := by decide +kernel
theorem dL_law_684 : decode cL_law 684 = .ok (.aload_n 1, 1) := by decide +kernel
theorem dL_law_685 : decode cL_law 685 = .ok (.aload_n 0, 1) := by decide +kernel
theorem dL_law_686 : decode cL_law 686 = .ok (.iload_n 3, 1) := by decide +kernel
theorem dL_law_687 : decode cL_law 687 = .ok (.iconst 1, 1) := by decide +kernel
theorem dL_law_688 : decode cL_law 688 = .ok (.iadd, 1) := by decide +kernel
theorem dL_law_689 : decode cL_law 689 = .ok (.iaload, 1) := by decide +kernel
theorem dL_law_690 : decode cL_law 690 = .ok (.aload_n 0, 1) := by decide +kernel
theorem dL_law_691 : decode cL_law 691 = .ok (.iload_n 3, 1) := by decide +kernel
theorem dL_law_692 : decode cL_law 692 = .ok (.iconst 2, 1) := by decide +kernel
theorem dL_law_693 : decode cL_law 693 = .ok (.iadd, 1) := by decide +kernel
theorem dL_law_694 : decode cL_law 694 = .ok (.iaload, 1) := by decide +kernel
theorem dL_law_695 : decode cL_law 695 = .ok (.invokevirtual 89, 3) := by decide +kernel
theorem dL_law_698 : decode cL_law 698 = .ok (.aload_n 2, 1) := by decide +kernel
theorem dL_law_699 : decode cL_law 699 = .ok (.aload_n 0, 1) := by decide +kernel
theorem dL_law_700 : decode cL_law 700 = .ok (.iload_n 3, 1) := by decide +kernel
theorem dL_law_701 : decode cL_law 701 = .ok (.iconst 1, 1) := by decide +kernel
theorem dL_law_702 : decode cL_law 702 = .ok (.iadd, 1) := by decide +kernel
theorem dL_law_703 : decode cL_law 703 = .ok (.iaload, 1) := by decide +kernel
theorem dL_law_704 : decode cL_law 704 = .ok (.aload_n 0, 1) := by decide +kernel
theorem dL_law_705 : decode cL_law 705 = .ok (.iload_n 3, 1) := by decide +kernel
theorem dL_law_706 : decode cL_law 706 = .ok (.iconst 2, 1) := by decide +kernel
theorem dL_law_707 : decode cL_law 707 = .ok (.iadd, 1) := by decide +kernel
theorem dL_law_708 : decode cL_law 708 = .ok (.iaload, 1) := by decide +kernel
theorem dL_law_709 : decode cL_law 709 = .ok (.invokevirtual 92, 3) := by decide +kernel
theorem dL_law_712 : decode cL_law 712 = .ok (.if_icmp .eq 479, 3) := by decide +kernel
theorem dL_law_715 : decode cL_law 715 = .ok (.iconst 0, 1) := by decide +kernel
theorem dL_law_716 : decode cL_law 716 = .ok (.ireturn, 1) := by decide +kernel
theorem dL_law_717 : decode cL_law 717 = .ok (.aload_n 1, 1) := by decide +kernel
theorem dL_law_718 : decode cL_law 718 = .ok (.invokevirtual 93, 3) := by decide +kernel
theorem dL_law_721 : decode cL_law 721 = .ok (.aload_n 2, 1) := by decide +kernel
theorem dL_law_722 : decode cL_law 722 = .ok (.invokevirtual 96, 3) := by decide +kernel
theorem dL_law_725 : decode cL_law 725 = .ok (.if_icmp .eq 466, 3) := by decide +kernel
theorem dL_law_728 : decode cL_law 728 = .ok (.iconst 0, 1) := by decide +kernel
theorem dL_law_729 : decode cL_law 729 = .ok (.ireturn, 1) := by decide +kernel
theorem dL_law_730 : decode cL_law 730 = .ok (.aload_n 1, 1) := by decide +kernel
theorem dL_law_731 : decode cL_law 731 = .ok (.aload_n 0, 1) := by decide +kernel
theorem dL_law_732 : decode cL_law 732 = .ok (.iload_n 3, 1) := by decide +kernel
theorem dL_law_733 : decode cL_law 733 = .ok (.iconst 1, 1) := by decide +kernel
theorem dL_law_734 : decode cL_law 734 = .ok (.iadd, 1) := by decide +kernel
theorem dL_law_735 : decode cL_law 735 = .ok (.iaload, 1) := by decide +kernel
theorem dL_law_736 : decode cL_law 736 = .ok (.invokevirtual 97, 3) := by decide +kernel
theorem dL_law_739 : decode cL_law 739 = .ok (.aload_n 2, 1) := by decide +kernel
theorem dL_law_740 : decode cL_law 740 = .ok (.aload_n 0, 1) := by decide +kernel
theorem dL_law_741 : decode cL_law 741 = .ok (.iload_n 3, 1) := by decide +kernel
theorem dL_law_742 : decode cL_law 742 = .ok (.iconst 1, 1) := by decide +kernel
theorem dL_law_743 : decode cL_law 743 = .ok (.iadd, 1) := by decide +kernel
theorem dL_law_744 : decode cL_law 744 = .ok (.iaload, 1) := by decide +kernel
theorem dL_law_745 : decode cL_law 745 = .ok (.invokevirtual 101, 3) := by decide +kernel
theorem dL_law_748 : decode cL_law 748 = .ok (.lcmp, 1) := by decide +kernel
theorem dL_law_749 : decode cL_law 749 = .ok (.ifCond .eq 442, 3) := by decide +kernel
theorem dL_law_752 : decode cL_law 752 = .ok (.iconst 0, 1) := by decide +kernel
theorem dL_law_753 : decode cL_law 753 = .ok (.ireturn, 1) := by decide +kernel
theorem dL_law_754 : decode cL_law 754 = .ok (.aload_n 1, 1) := by decide +kernel
theorem dL_law_755 : decode cL_law 755 = .ok (.aload_n 0, 1) := by decide +kernel
theorem dL_law_756 : decode cL_law 756 = .ok (.iload_n 3, 1) := by decide +kernel
theorem dL_law_757 : decode cL_law 757 = .ok (.iconst 1, 1) := by decide +kernel
theorem dL_law_758 : decode cL_law 758 = .ok (.iadd, 1) := by decide +kernel
theorem dL_law_759 : decode cL_law 759 = .ok (.iaload, 1) := by decide +kernel
theorem dL_law_760 : decode cL_law 760 = .ok (.aload_n 0, 1) := by decide +kernel
theorem dL_law_761 : decode cL_law 761 = .ok (.iload_n 3, 1) := by decide +kernel
theorem dL_law_762 : decode cL_law 762 = .ok (.iconst 2, 1) := by decide +kernel
theorem dL_law_763 : decode cL_law 763 = .ok (.iadd, 1) := by decide +kernel
theorem dL_law_764 : decode cL_law 764 = .ok (.iaload, 1) := by decide +kernel
theorem dL_law_765 : decode cL_law 765 = .ok (.aload_n 0, 1) := by decide +kernel
theorem dL_law_766 : decode cL_law 766 = .ok (.iload_n 3, 1) := by decide +kernel
theorem dL_law_767 : decode cL_law 767 = .ok (.iconst 3, 1) := by decide +kernel
theorem dL_law_768 : decode cL_law 768 = .ok (.iadd, 1) := by decide +kernel
theorem dL_law_769 : decode cL_law 769 = .ok (.iaload, 1) := by decide +kernel
theorem dL_law_770 : decode cL_law 770 = .ok (.invokevirtual 102, 3) := by decide +kernel
theorem dL_law_773 : decode cL_law 773 = .ok (.aload_n 2, 1) := by decide +kernel
theorem dL_law_774 : decode cL_law 774 = .ok (.aload_n 0, 1) := by decide +kernel
theorem dL_law_775 : decode cL_law 775 = .ok (.iload_n 3, 1) := by decide +kernel
theorem dL_law_776 : decode cL_law 776 = .ok (.iconst 1, 1) := by decide +kernel
theorem dL_law_777 : decode cL_law 777 = .ok (.iadd, 1) := by decide +kernel
theorem dL_law_778 : decode cL_law 778 = .ok (.iaload, 1) := by decide +kernel
theorem dL_law_779 : decode cL_law 779 = .ok (.aload_n 0, 1) := by decide +kernel
theorem dL_law_780 : decode cL_law 780 = .ok (.iload_n 3, 1) := by decide +kernel
theorem dL_law_781 : decode cL_law 781 = .ok (.iconst 2, 1) := by decide +kernel
theorem dL_law_782 : decode cL_law 782 = .ok (.iadd, 1) := by decide +kernel
theorem dL_law_783 : decode cL_law 783 = .ok (.iaload, 1) := by decide +kernel
theorem dL_law_784 : decode cL_law 784 = .ok (.aload_n 0, 1) := by decide +kernel
theorem dL_law_785 : decode cL_law 785 = .ok (.iload_n 3, 1) := by decide +kernel
theorem dL_law_786 : decode cL_law 786 = .ok (.iconst 3, 1) := by decide +kernel
theorem dL_law_787 : decode cL_law 787 = .ok (.iadd, 1) := by decide +kernel
theorem dL_law_788 : decode cL_law 788 = .ok (.iaload, 1) := by decide +kernel
theorem dL_law_789 : decode cL_law 789 = .ok (.invokevirtual 105, 3) := by decide +kernel
theorem dL_law_792 : decode cL_law 792 = .ok (.if_icmp .eq 399, 3) := by decide +kernel
theorem dL_law_795 : decode cL_law 795 = .ok (.iconst 0, 1) := by decide +kernel
theorem dL_law_796 : decode cL_law 796 = .ok (.ireturn, 1) := by decide +kernel
theorem dL_law_797 : decode cL_law 797 = .ok (.aload_n 1, 1) := by decide +kernel
theorem dL_law_798 : decode cL_law 798 = .ok (.aload_n 0, 1) := by decide +kernel
theorem dL_law_799 : decode cL_law 799 = .ok (.iload_n 3, 1) := by decide +kernel
theorem dL_law_800 : decode cL_law 800 = .ok (.iconst 1, 1) := by decide +kernel
theorem dL_law_801 : decode cL_law 801 = .ok (.iadd, 1) := by decide +kernel
theorem dL_law_802 : decode cL_law 802 = .ok (.iaload, 1) := by decide +kernel
theorem dL_law_803 : decode cL_law 803 = .ok (.invokevirtual 106, 3) := by decide +kernel
theorem dL_law_806 : decode cL_law 806 = .ok (.aload_n 2, 1) := by decide +kernel
theorem dL_law_807 : decode cL_law 807 = .ok (.aload_n 0, 1) := by decide +kernel
theorem dL_law_808 : decode cL_law 808 = .ok (.iload_n 3, 1) := by decide +kernel
theorem dL_law_809 : decode cL_law 809 = .ok (.iconst 1, 1) := by decide +kernel
theorem dL_law_810 : decode cL_law 810 = .ok (.iadd, 1) := by decide +kernel
theorem dL_law_811 : decode cL_law 811 = .ok (.iaload, 1) := by decide +kernel
theorem dL_law_812 : decode cL_law 812 = .ok (.invokevirtual 109, 3) := by decide +kernel
theorem dL_law_815 : decode cL_law 815 = .ok (.if_icmp .eq 376, 3) := by decide +kernel
theorem dL_law_818 : decode cL_law 818 = .ok (.iconst 0, 1) := by decide +kernel
theorem dL_law_819 : decode cL_law 819 = .ok (.ireturn, 1) := by decide +kernel
theorem dL_law_820 : decode cL_law 820 = .ok (.aload_n 1, 1) := by decide +kernel
theorem dL_law_821 : decode cL_law 821 = .ok (.aload_n 0, 1) := by decide +kernel
theorem dL_law_822 : decode cL_law 822 = .ok (.iload_n 3, 1) := by decide +kernel
theorem dL_law_823 : decode cL_law 823 = .ok (.iconst 1, 1) := by decide +kernel
theorem dL_law_824 : decode cL_law 824 = .ok (.iadd, 1) := by decide +kernel
theorem dL_law_825 : decode cL_law 825 = .ok (.iaload, 1) := by decide +kernel
theorem dL_law_826 : decode cL_law 826 = .ok (.aload_n 0, 1) := by decide +kernel
theorem dL_law_827 : decode cL_law 827 = .ok (.iload_n 3, 1) := by decide +kernel
theorem dL_law_828 : decode cL_law 828 = .ok (.iconst 2, 1) := by decide +kernel
theorem dL_law_829 : decode cL_law 829 = .ok (.iadd, 1) := by decide +kernel
theorem dL_law_830 : decode cL_law 830 = .ok (.iaload, 1) := by decide +kernel
theorem dL_law_831 : decode cL_law 831 = .ok (.invokevirtual 110, 3) := by decide +kernel
theorem dL_law_834 : decode cL_law 834 = .ok (.aload_n 2, 1) := by decide +kernel
theorem dL_law_835 : decode cL_law 835 = .ok (.aload_n 0, 1) := by decide +kernel
theorem dL_law_836 : decode cL_law 836 = .ok (.iload_n 3, 1) := by decide +kernel
theorem dL_law_837 : decode cL_law 837 = .ok (.iconst 1, 1) := by decide +kernel
theorem dL_law_838 : decode cL_law 838 = .ok (.iadd, 1) := by decide +kernel
theorem dL_law_839 : decode cL_law 839 = .ok (.iaload, 1) := by decide +kernel
theorem dL_law_840 : decode cL_law 840 = .ok (.aload_n 0, 1) := by decide +kernel
theorem dL_law_841 : decode cL_law 841 = .ok (.iload_n 3, 1) := by decide +kernel
theorem dL_law_842 : decode cL_law 842 = .ok (.iconst 2, 1) := by decide +kernel
theorem dL_law_843 : decode cL_law 843 = .ok (.iadd, 1) := by decide +kernel
theorem dL_law_844 : decode cL_law 844 = .ok (.iaload, 1) := by decide +kernel
theorem dL_law_845 : decode cL_law 845 = .ok (.invokevirtual 113, 3) := by decide +kernel
theorem dL_law_848 : decode cL_law 848 = .ok (.if_icmp .eq 343, 3) := by decide +kernel
theorem dL_law_851 : decode cL_law 851 = .ok (.iconst 0, 1) := by decide +kernel
theorem dL_law_852 : decode cL_law 852 = .ok (.ireturn, 1) := by decide +kernel
theorem dL_law_853 : decode cL_law 853 = .ok (.aload_n 1, 1) := by decide +kernel
theorem dL_law_854 : decode cL_law 854 = .ok (.aload_n 0, 1) := by decide +kernel
theorem dL_law_855 : decode cL_law 855 = .ok (.iload_n 3, 1) := by decide +kernel
theorem dL_law_856 : decode cL_law 856 = .ok (.iconst 1, 1) := by decide +kernel
theorem dL_law_857 : decode cL_law 857 = .ok (.iadd, 1) := by decide +kernel
theorem dL_law_858 : decode cL_law 858 = .ok (.iaload, 1) := by decide +kernel
theorem dL_law_859 : decode cL_law 859 = .ok (.aload_n 0, 1) := by decide +kernel
theorem dL_law_860 : decode cL_law 860 = .ok (.iload_n 3, 1) := by decide +kernel
theorem dL_law_861 : decode cL_law 861 = .ok (.iconst 2, 1) := by decide +kernel
theorem dL_law_862 : decode cL_law 862 = .ok (.iadd, 1) := by decide +kernel
theorem dL_law_863 : decode cL_law 863 = .ok (.iaload, 1) := by decide +kernel
theorem dL_law_864 : decode cL_law 864 = .ok (.aload_n 0, 1) := by decide +kernel
theorem dL_law_865 : decode cL_law 865 = .ok (.iload_n 3, 1) := by decide +kernel
theorem dL_law_866 : decode cL_law 866 = .ok (.iconst 3, 1) := by decide +kernel
theorem dL_law_867 : decode cL_law 867 = .ok (.iadd, 1) := by decide +kernel
theorem dL_law_868 : decode cL_law 868 = .ok (.iaload, 1) := by decide +kernel
theorem dL_law_869 : decode cL_law 869 = .ok (.aload_n 0, 1) := by decide +kernel
theorem dL_law_870 : decode cL_law 870 = .ok (.iload_n 3, 1) := by decide +kernel
theorem dL_law_871 : decode cL_law 871 = .ok (.iconst 4, 1) := by decide +kernel
theorem dL_law_872 : decode cL_law 872 = .ok (.iadd, 1) := by decide +kernel
theorem dL_law_873 : decode cL_law 873 = .ok (.iaload, 1) := by decide +kernel
theorem dL_law_874 : decode cL_law 874 = .ok (.invokevirtual 114, 3) := by decide +kernel
theorem dL_law_877 : decode cL_law 877 = .ok (.aload_n 2, 1) := by decide +kernel
theorem dL_law_878 : decode cL_law 878 = .ok (.aload_n 0, 1) := by decide +kernel
theorem dL_law_879 : decode cL_law 879 = .ok (.iload_n 3, 1) := by decide +kernel
theorem dL_law_880 : decode cL_law 880 = .ok (.iconst 1, 1) := by decide +kernel
theorem dL_law_881 : decode cL_law 881 = .ok (.iadd, 1) := by decide +kernel
theorem dL_law_882 : decode cL_law 882 = .ok (.iaload, 1) := by decide +kernel
theorem dL_law_883 : decode cL_law 883 = .ok (.aload_n 0, 1) := by decide +kernel
theorem dL_law_884 : decode cL_law 884 = .ok (.iload_n 3, 1) := by decide +kernel
theorem dL_law_885 : decode cL_law 885 = .ok (.iconst 2, 1) := by decide +kernel
theorem dL_law_886 : decode cL_law 886 = .ok (.iadd, 1) := by decide +kernel
theorem dL_law_887 : decode cL_law 887 = .ok (.iaload, 1) := by decide +kernel
theorem dL_law_888 : decode cL_law 888 = .ok (.aload_n 0, 1) := by decide +kernel
theorem dL_law_889 : decode cL_law 889 = .ok (.iload_n 3, 1) := by decide +kernel
theorem dL_law_890 : decode cL_law 890 = .ok (.iconst 3, 1) := by decide +kernel
theorem dL_law_891 : decode cL_law 891 = .ok (.iadd, 1) := by decide +kernel
theorem dL_law_892 : decode cL_law 892 = .ok (.iaload, 1) := by decide +kernel
theorem dL_law_893 : decode cL_law 893 = .ok (.aload_n 0, 1) := by decide +kernel
theorem dL_law_894 : decode cL_law 894 = .ok (.iload_n 3, 1) := by decide +kernel
theorem dL_law_895 : decode cL_law 895 = .ok (.iconst 4, 1) := by decide +kernel
theorem dL_law_896 : decode cL_law 896 = .ok (.iadd, 1) := by decide +kernel
theorem dL_law_897 : decode cL_law 897 = .ok (.iaload, 1) := by decide +kernel
theorem dL_law_898 : decode cL_law 898 = .ok (.invokevirtual 118, 3) := by decide +kernel
theorem dL_law_901 : decode cL_law 901 = .ok (.lcmp, 1) := by decide +kernel
theorem dL_law_902 : decode cL_law 902 = .ok (.ifCond .eq 289, 3) := by decide +kernel
theorem dL_law_905 : decode cL_law 905 = .ok (.iconst 0, 1) := by decide +kernel
theorem dL_law_906 : decode cL_law 906 = .ok (.ireturn, 1) := by decide +kernel
theorem dL_law_907 : decode cL_law 907 = .ok (.aload_n 1, 1) := by decide +kernel
theorem dL_law_908 : decode cL_law 908 = .ok (.invokevirtual 119, 3) := by decide +kernel
theorem dL_law_911 : decode cL_law 911 = .ok (.aload_n 2, 1) := by decide +kernel
theorem dL_law_912 : decode cL_law 912 = .ok (.invokevirtual 122, 3) := by decide +kernel
theorem dL_law_915 : decode cL_law 915 = .ok (.if_icmp .eq 276, 3) := by decide +kernel
theorem dL_law_918 : decode cL_law 918 = .ok (.iconst 0, 1) := by decide +kernel
theorem dL_law_919 : decode cL_law 919 = .ok (.ireturn, 1) := by decide +kernel
theorem dL_law_920 : decode cL_law 920 = .ok (.aload_n 1, 1) := by decide +kernel
theorem dL_law_921 : decode cL_law 921 = .ok (.invokevirtual 123, 3) := by decide +kernel
theorem dL_law_924 : decode cL_law 924 = .ok (.aload_n 2, 1) := by decide +kernel
theorem dL_law_925 : decode cL_law 925 = .ok (.invokevirtual 126, 3) := by decide +kernel
theorem dL_law_928 : decode cL_law 928 = .ok (.if_icmp .eq 263, 3) := by decide +kernel
theorem dL_law_931 : decode cL_law 931 = .ok (.iconst 0, 1) := by decide +kernel
theorem dL_law_932 : decode cL_law 932 = .ok (.ireturn, 1) := by decide +kernel
theorem dL_law_933 : decode cL_law 933 = .ok (.aload_n 1, 1) := by decide +kernel
theorem dL_law_934 : decode cL_law 934 = .ok (.aload_n 0, 1) := by decide +kernel
theorem dL_law_935 : decode cL_law 935 = .ok (.iload_n 3, 1) := by decide +kernel
theorem dL_law_936 : decode cL_law 936 = .ok (.iconst 1, 1) := by decide +kernel
theorem dL_law_937 : decode cL_law 937 = .ok (.iadd, 1) := by decide +kernel
theorem dL_law_938 : decode cL_law 938 = .ok (.iaload, 1) := by decide +kernel
theorem dL_law_939 : decode cL_law 939 = .ok (.invokevirtual 127, 3) := by decide +kernel
theorem dL_law_942 : decode cL_law 942 = .ok (.aload_n 2, 1) := by decide +kernel
theorem dL_law_943 : decode cL_law 943 = .ok (.aload_n 0, 1) := by decide +kernel
theorem dL_law_944 : decode cL_law 944 = .ok (.iload_n 3, 1) := by decide +kernel
theorem dL_law_945 : decode cL_law 945 = .ok (.iconst 1, 1) := by decide +kernel
theorem dL_law_946 : decode cL_law 946 = .ok (.iadd, 1) := by decide +kernel
theorem dL_law_947 : decode cL_law 947 = .ok (.iaload, 1) := by decide +kernel
theorem dL_law_948 : decode cL_law 948 = .ok (.invokevirtual 130, 3) := by decide +kernel
theorem dL_law_951 : decode cL_law 951 = .ok (.if_icmp .eq 240, 3) := by decide +kernel
theorem dL_law_954 : decode cL_law 954 = .ok (.iconst 0, 1) := by decide +kernel
theorem dL_law_955 : decode cL_law 955 = .ok (.ireturn, 1) := by decide +kernel
theorem dL_law_956 : decode cL_law 956 = .ok (.aload_n 1, 1) := by decide +kernel
theorem dL_law_957 : decode cL_law 957 = .ok (.aload_n 0, 1) := by decide +kernel
theorem dL_law_958 : decode cL_law 958 = .ok (.iload_n 3, 1) := by decide +kernel
theorem dL_law_959 : decode cL_law 959 = .ok (.iconst 1, 1) := by decide +kernel
theorem dL_law_960 : decode cL_law 960 = .ok (.iadd, 1) := by decide +kernel
theorem dL_law_961 : decode cL_law 961 = .ok (.iaload, 1) := by decide +kernel
theorem dL_law_962 : decode cL_law 962 = .ok (.aload_n 0, 1) := by decide +kernel
theorem dL_law_963 : decode cL_law 963 = .ok (.iload_n 3, 1) := by decide +kernel
theorem dL_law_964 : decode cL_law 964 = .ok (.iconst 2, 1) := by decide +kernel
theorem dL_law_965 : decode cL_law 965 = .ok (.iadd, 1) := by decide +kernel
theorem dL_law_966 : decode cL_law 966 = .ok (.iaload, 1) := by decide +kernel
theorem dL_law_967 : decode cL_law 967 = .ok (.aload_n 0, 1) := by decide +kernel
theorem dL_law_968 : decode cL_law 968 = .ok (.iload_n 3, 1) := by decide +kernel
theorem dL_law_969 : decode cL_law 969 = .ok (.iconst 3, 1) := by decide +kernel
theorem dL_law_970 : decode cL_law 970 = .ok (.iadd, 1) := by decide +kernel
theorem dL_law_971 : decode cL_law 971 = .ok (.iaload, 1) := by decide +kernel
theorem dL_law_972 : decode cL_law 972 = .ok (.invokevirtual 131, 3) := by decide +kernel
theorem dL_law_975 : decode cL_law 975 = .ok (.aload_n 2, 1) := by decide +kernel
theorem dL_law_976 : decode cL_law 976 = .ok (.aload_n 0, 1) := by decide +kernel
theorem dL_law_977 : decode cL_law 977 = .ok (.iload_n 3, 1) := by decide +kernel
theorem dL_law_978 : decode cL_law 978 = .ok (.iconst 1, 1) := by decide +kernel
theorem dL_law_979 : decode cL_law 979 = .ok (.iadd, 1) := by decide +kernel
theorem dL_law_980 : decode cL_law 980 = .ok (.iaload, 1) := by decide +kernel
theorem dL_law_981 : decode cL_law 981 = .ok (.aload_n 0, 1) := by decide +kernel
theorem dL_law_982 : decode cL_law 982 = .ok (.iload_n 3, 1) := by decide +kernel
theorem dL_law_983 : decode cL_law 983 = .ok (.iconst 2, 1) := by decide +kernel
theorem dL_law_984 : decode cL_law 984 = .ok (.iadd, 1) := by decide +kernel
theorem dL_law_985 : decode cL_law 985 = .ok (.iaload, 1) := by decide +kernel
theorem dL_law_986 : decode cL_law 986 = .ok (.aload_n 0, 1) := by decide +kernel
theorem dL_law_987 : decode cL_law 987 = .ok (.iload_n 3, 1) := by decide +kernel
theorem dL_law_988 : decode cL_law 988 = .ok (.iconst 3, 1) := by decide +kernel
theorem dL_law_989 : decode cL_law 989 = .ok (.iadd, 1) := by decide +kernel
theorem dL_law_990 : decode cL_law 990 = .ok (.iaload, 1) := by decide +kernel
theorem dL_law_991 : decode cL_law 991 = .ok (.invokevirtual 134, 3) := by decide +kernel
theorem dL_law_994 : decode cL_law 994 = .ok (.if_icmp .eq 197, 3) := by decide +kernel
theorem dL_law_997 : decode cL_law 997 = .ok (.iconst 0, 1) := by decide +kernel
theorem dL_law_998 : decode cL_law 998 = .ok (.ireturn, 1) := by decide +kernel
theorem dL_law_999 : decode cL_law 999 = .ok (.aload_n 1, 1) := by decide +kernel
theorem dL_law_1000 : decode cL_law 1000 = .ok (.aload_n 0, 1) := by decide +kernel
theorem dL_law_1001 : decode cL_law 1001 = .ok (.iload_n 3, 1) := by decide +kernel
theorem dL_law_1002 : decode cL_law 1002 = .ok (.iconst 1, 1) := by decide +kernel
theorem dL_law_1003 : decode cL_law 1003 = .ok (.iadd, 1) := by decide +kernel
theorem dL_law_1004 : decode cL_law 1004 = .ok (.iaload, 1) := by decide +kernel
theorem dL_law_1005 : decode cL_law 1005 = .ok (.aload_n 0, 1) := by decide +kernel
theorem dL_law_1006 : decode cL_law 1006 = .ok (.iload_n 3, 1) := by decide +kernel
theorem dL_law_1007 : decode cL_law 1007 = .ok (.iconst 2, 1) := by decide +kernel
theorem dL_law_1008 : decode cL_law 1008 = .ok (.iadd, 1) := by decide +kernel
theorem dL_law_1009 : decode cL_law 1009 = .ok (.iaload, 1) := by decide +kernel
theorem dL_law_1010 : decode cL_law 1010 = .ok (.aload_n 0, 1) := by decide +kernel
theorem dL_law_1011 : decode cL_law 1011 = .ok (.iload_n 3, 1) := by decide +kernel
theorem dL_law_1012 : decode cL_law 1012 = .ok (.iconst 3, 1) := by decide +kernel
theorem dL_law_1013 : decode cL_law 1013 = .ok (.iadd, 1) := by decide +kernel
theorem dL_law_1014 : decode cL_law 1014 = .ok (.iaload, 1) := by decide +kernel
theorem dL_law_1015 : decode cL_law 1015 = .ok (.invokevirtual 135, 3) := by decide +kernel
theorem dL_law_1018 : decode cL_law 1018 = .ok (.aload_n 2, 1) := by decide +kernel
theorem dL_law_1019 : decode cL_law 1019 = .ok (.aload_n 0, 1) := by decide +kernel
theorem dL_law_1020 : decode cL_law 1020 = .ok (.iload_n 3, 1) := by decide +kernel
theorem dL_law_1021 : decode cL_law 1021 = .ok (.iconst 1, 1) := by decide +kernel
theorem dL_law_1022 : decode cL_law 1022 = .ok (.iadd, 1) := by decide +kernel
theorem dL_law_1023 : decode cL_law 1023 = .ok (.iaload, 1) := by decide +kernel
theorem dL_law_1024 : decode cL_law 1024 = .ok (.aload_n 0, 1) := by decide +kernel
theorem dL_law_1025 : decode cL_law 1025 = .ok (.iload_n 3, 1) := by decide +kernel
theorem dL_law_1026 : decode cL_law 1026 = .ok (.iconst 2, 1) := by decide +kernel
theorem dL_law_1027 : decode cL_law 1027 = .ok (.iadd, 1) := by decide +kernel
theorem dL_law_1028 : decode cL_law 1028 = .ok (.iaload, 1) := by decide +kernel
theorem dL_law_1029 : decode cL_law 1029 = .ok (.aload_n 0, 1) := by decide +kernel
theorem dL_law_1030 : decode cL_law 1030 = .ok (.iload_n 3, 1) := by decide +kernel
theorem dL_law_1031 : decode cL_law 1031 = .ok (.iconst 3, 1) := by decide +kernel
theorem dL_law_1032 : decode cL_law 1032 = .ok (.iadd, 1) := by decide +kernel
theorem dL_law_1033 : decode cL_law 1033 = .ok (.iaload, 1) := by decide +kernel
theorem dL_law_1034 : decode cL_law 1034 = .ok (.invokevirtual 138, 3) := by decide +kernel
theorem dL_law_1037 : decode cL_law 1037 = .ok (.if_icmp .eq 154, 3) := by decide +kernel
theorem dL_law_1040 : decode cL_law 1040 = .ok (.iconst 0, 1) := by decide +kernel
theorem dL_law_1041 : decode cL_law 1041 = .ok (.ireturn, 1) := by decide +kernel
theorem dL_law_1042 : decode cL_law 1042 = .ok (.aload_n 1, 1) := by decide +kernel
theorem dL_law_1043 : decode cL_law 1043 = .ok (.aload_n 0, 1) := by decide +kernel
theorem dL_law_1044 : decode cL_law 1044 = .ok (.iload_n 3, 1) := by decide +kernel
theorem dL_law_1045 : decode cL_law 1045 = .ok (.iconst 1, 1) := by decide +kernel
theorem dL_law_1046 : decode cL_law 1046 = .ok (.iadd, 1) := by decide +kernel
theorem dL_law_1047 : decode cL_law 1047 = .ok (.iaload, 1) := by decide +kernel
theorem dL_law_1048 : decode cL_law 1048 = .ok (.aload_n 0, 1) := by decide +kernel
theorem dL_law_1049 : decode cL_law 1049 = .ok (.iload_n 3, 1) := by decide +kernel
theorem dL_law_1050 : decode cL_law 1050 = .ok (.iconst 2, 1) := by decide +kernel
theorem dL_law_1051 : decode cL_law 1051 = .ok (.iadd, 1) := by decide +kernel
theorem dL_law_1052 : decode cL_law 1052 = .ok (.iaload, 1) := by decide +kernel
theorem dL_law_1053 : decode cL_law 1053 = .ok (.aload_n 0, 1) := by decide +kernel
theorem dL_law_1054 : decode cL_law 1054 = .ok (.iload_n 3, 1) := by decide +kernel
theorem dL_law_1055 : decode cL_law 1055 = .ok (.iconst 3, 1) := by decide +kernel
theorem dL_law_1056 : decode cL_law 1056 = .ok (.iadd, 1) := by decide +kernel
theorem dL_law_1057 : decode cL_law 1057 = .ok (.iaload, 1) := by decide +kernel
theorem dL_law_1058 : decode cL_law 1058 = .ok (.aload_n 0, 1) := by decide +kernel
theorem dL_law_1059 : decode cL_law 1059 = .ok (.iload_n 3, 1) := by decide +kernel
theorem dL_law_1060 : decode cL_law 1060 = .ok (.iconst 4, 1) := by decide +kernel
theorem dL_law_1061 : decode cL_law 1061 = .ok (.iadd, 1) := by decide +kernel
theorem dL_law_1062 : decode cL_law 1062 = .ok (.iaload, 1) := by decide +kernel
theorem dL_law_1063 : decode cL_law 1063 = .ok (.aload_n 0, 1) := by decide +kernel
theorem dL_law_1064 : decode cL_law 1064 = .ok (.iload_n 3, 1) := by decide +kernel
theorem dL_law_1065 : decode cL_law 1065 = .ok (.iconst 5, 1) := by decide +kernel
theorem dL_law_1066 : decode cL_law 1066 = .ok (.iadd, 1) := by decide +kernel
theorem dL_law_1067 : decode cL_law 1067 = .ok (.iaload, 1) := by decide +kernel
theorem dL_law_1068 : decode cL_law 1068 = .ok (.invokevirtual 139, 3) := by decide +kernel
theorem dL_law_1071 : decode cL_law 1071 = .ok (.aload_n 2, 1) := by decide +kernel
theorem dL_law_1072 : decode cL_law 1072 = .ok (.aload_n 0, 1) := by decide +kernel
theorem dL_law_1073 : decode cL_law 1073 = .ok (.iload_n 3, 1) := by decide +kernel
theorem dL_law_1074 : decode cL_law 1074 = .ok (.iconst 1, 1) := by decide +kernel
theorem dL_law_1075 : decode cL_law 1075 = .ok (.iadd, 1) := by decide +kernel
theorem dL_law_1076 : decode cL_law 1076 = .ok (.iaload, 1) := by decide +kernel
theorem dL_law_1077 : decode cL_law 1077 = .ok (.aload_n 0, 1) := by decide +kernel
theorem dL_law_1078 : decode cL_law 1078 = .ok (.iload_n 3, 1) := by decide +kernel
theorem dL_law_1079 : decode cL_law 1079 = .ok (.iconst 2, 1) := by decide +kernel
theorem dL_law_1080 : decode cL_law 1080 = .ok (.iadd, 1) := by decide +kernel
theorem dL_law_1081 : decode cL_law 1081 = .ok (.iaload, 1) := by decide +kernel
theorem dL_law_1082 : decode cL_law 1082 = .ok (.aload_n 0, 1) := by decide +kernel
theorem dL_law_1083 : decode cL_law 1083 = .ok (.iload_n 3, 1) := by decide +kernel
theorem dL_law_1084 : decode cL_law 1084 = .ok (.iconst 3, 1) := by decide +kernel
theorem dL_law_1085 : decode cL_law 1085 = .ok (.iadd, 1) := by decide +kernel
theorem dL_law_1086 : decode cL_law 1086 = .ok (.iaload, 1) := by decide +kernel
theorem dL_law_1087 : decode cL_law 1087 = .ok (.aload_n 0, 1) := by decide +kernel
theorem dL_law_1088 : decode cL_law 1088 = .ok (.iload_n 3, 1) := by decide +kernel
theorem dL_law_1089 : decode cL_law 1089 = .ok (.iconst 4, 1) := by decide +kernel
theorem dL_law_1090 : decode cL_law 1090 = .ok (.iadd, 1) := by decide +kernel
theorem dL_law_1091 : decode cL_law 1091 = .ok (.iaload, 1) := by decide +kernel
theorem dL_law_1092 : decode cL_law 1092 = .ok (.aload_n 0, 1) := by decide +kernel
theorem dL_law_1093 : decode cL_law 1093 = .ok (.iload_n 3, 1) := by decide +kernel
theorem dL_law_1094 : decode cL_law 1094 = .ok (.iconst 5, 1) := by decide +kernel
theorem dL_law_1095 : decode cL_law 1095 = .ok (.iadd, 1) := by decide +kernel
theorem dL_law_1096 : decode cL_law 1096 = .ok (.iaload, 1) := by decide +kernel
theorem dL_law_1097 : decode cL_law 1097 = .ok (.invokevirtual 143, 3) := by decide +kernel
theorem dL_law_1100 : decode cL_law 1100 = .ok (.if_icmp .eq 91, 3) := by decide +kernel
theorem dL_law_1103 : decode cL_law 1103 = .ok (.iconst 0, 1) := by decide +kernel
theorem dL_law_1104 : decode cL_law 1104 = .ok (.ireturn, 1) := by decide +kernel
theorem dL_law_1105 : decode cL_law 1105 = .ok (.aload_n 1, 1) := by decide +kernel
theorem dL_law_1106 : decode cL_law 1106 = .ok (.aload_n 0, 1) := by decide +kernel
theorem dL_law_1107 : decode cL_law 1107 = .ok (.iload_n 3, 1) := by decide +kernel
theorem dL_law_1108 : decode cL_law 1108 = .ok (.iconst 1, 1) := by decide +kernel
theorem dL_law_1109 : decode cL_law 1109 = .ok (.iadd, 1) := by decide +kernel
theorem dL_law_1110 : decode cL_law 1110 = .ok (.iaload, 1) := by decide +kernel
theorem dL_law_1111 : decode cL_law 1111 = .ok (.aload_n 0, 1) := by decide +kernel
theorem dL_law_1112 : decode cL_law 1112 = .ok (.iload_n 3, 1) := by decide +kernel
theorem dL_law_1113 : decode cL_law 1113 = .ok (.iconst 2, 1) := by decide +kernel
theorem dL_law_1114 : decode cL_law 1114 = .ok (.iadd, 1) := by decide +kernel
theorem dL_law_1115 : decode cL_law 1115 = .ok (.iaload, 1) := by decide +kernel
theorem dL_law_1116 : decode cL_law 1116 = .ok (.aload_n 0, 1) := by decide +kernel
theorem dL_law_1117 : decode cL_law 1117 = .ok (.iload_n 3, 1) := by decide +kernel
theorem dL_law_1118 : decode cL_law 1118 = .ok (.iconst 3, 1) := by decide +kernel
theorem dL_law_1119 : decode cL_law 1119 = .ok (.iadd, 1) := by decide +kernel
theorem dL_law_1120 : decode cL_law 1120 = .ok (.iaload, 1) := by decide +kernel
theorem dL_law_1121 : decode cL_law 1121 = .ok (.aload_n 0, 1) := by decide +kernel
theorem dL_law_1122 : decode cL_law 1122 = .ok (.iload_n 3, 1) := by decide +kernel
theorem dL_law_1123 : decode cL_law 1123 = .ok (.iconst 4, 1) := by decide +kernel
theorem dL_law_1124 : decode cL_law 1124 = .ok (.iadd, 1) := by decide +kernel
theorem dL_law_1125 : decode cL_law 1125 = .ok (.iaload, 1) := by decide +kernel
theorem dL_law_1126 : decode cL_law 1126 = .ok (.invokevirtual 144, 3) := by decide +kernel
theorem dL_law_1129 : decode cL_law 1129 = .ok (.aload_n 2, 1) := by decide +kernel
theorem dL_law_1130 : decode cL_law 1130 = .ok (.aload_n 0, 1) := by decide +kernel
theorem dL_law_1131 : decode cL_law 1131 = .ok (.iload_n 3, 1) := by decide +kernel
theorem dL_law_1132 : decode cL_law 1132 = .ok (.iconst 1, 1) := by decide +kernel
theorem dL_law_1133 : decode cL_law 1133 = .ok (.iadd, 1) := by decide +kernel
theorem dL_law_1134 : decode cL_law 1134 = .ok (.iaload, 1) := by decide +kernel
theorem dL_law_1135 : decode cL_law 1135 = .ok (.aload_n 0, 1) := by decide +kernel
theorem dL_law_1136 : decode cL_law 1136 = .ok (.iload_n 3, 1) := by decide +kernel
theorem dL_law_1137 : decode cL_law 1137 = .ok (.iconst 2, 1) := by decide +kernel
theorem dL_law_1138 : decode cL_law 1138 = .ok (.iadd, 1) := by decide +kernel
theorem dL_law_1139 : decode cL_law 1139 = .ok (.iaload, 1) := by decide +kernel
theorem dL_law_1140 : decode cL_law 1140 = .ok (.aload_n 0, 1) := by decide +kernel
theorem dL_law_1141 : decode cL_law 1141 = .ok (.iload_n 3, 1) := by decide +kernel
theorem dL_law_1142 : decode cL_law 1142 = .ok (.iconst 3, 1) := by decide +kernel
theorem dL_law_1143 : decode cL_law 1143 = .ok (.iadd, 1) := by decide +kernel
theorem dL_law_1144 : decode cL_law 1144 = .ok (.iaload, 1) := by decide +kernel
theorem dL_law_1145 : decode cL_law 1145 = .ok (.aload_n 0, 1) := by decide +kernel
theorem dL_law_1146 : decode cL_law 1146 = .ok (.iload_n 3, 1) := by decide +kernel
theorem dL_law_1147 : decode cL_law 1147 = .ok (.iconst 4, 1) := by decide +kernel
theorem dL_law_1148 : decode cL_law 1148 = .ok (.iadd, 1) := by decide +kernel
theorem dL_law_1149 : decode cL_law 1149 = .ok (.iaload, 1) := by decide +kernel
theorem dL_law_1150 : decode cL_law 1150 = .ok (.invokevirtual 148, 3) := by decide +kernel
theorem dL_law_1153 : decode cL_law 1153 = .ok (.if_icmp .eq 38, 3) := by decide +kernel
theorem dL_law_1156 : decode cL_law 1156 = .ok (.iconst 0, 1) := by decide +kernel
theorem dL_law_1157 : decode cL_law 1157 = .ok (.ireturn, 1) := by decide +kernel
theorem dL_law_1158 : decode cL_law 1158 = .ok (.aload_n 1, 1) := by decide +kernel
theorem dL_law_1159 : decode cL_law 1159 = .ok (.aload_n 0, 1) := by decide +kernel
theorem dL_law_1160 : decode cL_law 1160 = .ok (.iload_n 3, 1) := by decide +kernel
theorem dL_law_1161 : decode cL_law 1161 = .ok (.iconst 1, 1) := by decide +kernel
theorem dL_law_1162 : decode cL_law 1162 = .ok (.iadd, 1) := by decide +kernel
theorem dL_law_1163 : decode cL_law 1163 = .ok (.iaload, 1) := by decide +kernel
theorem dL_law_1164 : decode cL_law 1164 = .ok (.aload_n 0, 1) := by decide +kernel
theorem dL_law_1165 : decode cL_law 1165 = .ok (.iload_n 3, 1) := by decide +kernel
theorem dL_law_1166 : decode cL_law 1166 = .ok (.iconst 2, 1) := by decide +kernel
theorem dL_law_1167 : decode cL_law 1167 = .ok (.iadd, 1) := by decide +kernel
theorem dL_law_1168 : decode cL_law 1168 = .ok (.iaload, 1) := by decide +kernel
theorem dL_law_1169 : decode cL_law 1169 = .ok (.invokevirtual 149, 3) := by decide +kernel
theorem dL_law_1172 : decode cL_law 1172 = .ok (.aload_n 2, 1) := by decide +kernel
theorem dL_law_1173 : decode cL_law 1173 = .ok (.aload_n 0, 1) := by decide +kernel
theorem dL_law_1174 : decode cL_law 1174 = .ok (.iload_n 3, 1) := by decide +kernel
theorem dL_law_1175 : decode cL_law 1175 = .ok (.iconst 1, 1) := by decide +kernel
theorem dL_law_1176 : decode cL_law 1176 = .ok (.iadd, 1) := by decide +kernel
theorem dL_law_1177 : decode cL_law 1177 = .ok (.iaload, 1) := by decide +kernel
theorem dL_law_1178 : decode cL_law 1178 = .ok (.aload_n 0, 1) := by decide +kernel
theorem dL_law_1179 : decode cL_law 1179 = .ok (.iload_n 3, 1) := by decide +kernel
theorem dL_law_1180 : decode cL_law 1180 = .ok (.iconst 2, 1) := by decide +kernel
theorem dL_law_1181 : decode cL_law 1181 = .ok (.iadd, 1) := by decide +kernel
theorem dL_law_1182 : decode cL_law 1182 = .ok (.iaload, 1) := by decide +kernel
theorem dL_law_1183 : decode cL_law 1183 = .ok (.invokevirtual 152, 3) := by decide +kernel
theorem dL_law_1186 : decode cL_law 1186 = .ok (.if_icmp .eq 5, 3) := by decide +kernel
theorem dL_law_1189 : decode cL_law 1189 = .ok (.iconst 0, 1) := by decide +kernel
theorem dL_law_1190 : decode cL_law 1190 = .ok (.ireturn, 1) := by decide +kernel
theorem dL_law_1191 : decode cL_law 1191 = .ok (.iinc 3 6, 3) := by decide +kernel
theorem dL_law_1194 : decode cL_law 1194 = .ok (.goto (-1176), 3) := by decide +kernel
theorem dL_law_1197 : decode cL_law 1197 = .ok (.iconst 1, 1) := by decide +kernel
theorem dL_law_1198 : decode cL_law 1198 = .ok (.ireturn, 1) := by decide +kernel
end
section
theorem dX0_init_0 : decode cX0_init 0 = .ok (.aload_n 0, 1) := by decide +kernel
theorem dX0_init_1 : decode cX0_init 1 = .ok (.invokespecial 3, 3) := by decide +kernel
theorem dX0_init_4 : decode cX0_init 4 = .ok (.aload_n 0, 1) := by decide +kernel
theorem dX0_init_5 : decode cX0_init 5 = .ok (.bipush 6, 2) := by decide +kernel
theorem dX0_init_7 : decode cX0_init 7 = .ok (.newarray .int, 2) := by decide +kernel
theorem dX0_init_9 : decode cX0_init 9 = .ok (.putfield 9, 3) := by decide +kernel
theorem dX0_init_12 : decode cX0_init 12 = .ok (.aload_n 0, 1) := by decide +kernel
theorem dX0_init_13 : decode cX0_init 13 = .ok (.bipush 6, 2) := by decide +kernel
theorem dX0_init_15 : decode cX0_init 15 = .ok (.newarray .int, 2) := by decide +kernel
theorem dX0_init_17 : decode cX0_init 17 = .ok (.putfield 15, 3) := by decide +kernel
theorem dX0_init_20 : decode cX0_init 20 = .ok (.aload_n 0, 1) := by decide +kernel
theorem dX0_init_21 : decode cX0_init 21 = .ok (.bipush 6, 2) := by decide +kernel
theorem dX0_init_23 : decode cX0_init 23 = .ok (.newarray .int, 2) := by decide +kernel
theorem dX0_init_25 : decode cX0_init 25 = .ok (.putfield 18, 3) := by decide +kernel
theorem dX0_init_28 : decode cX0_init 28 = .ok (.aload_n 0, 1) := by decide +kernel
theorem dX0_init_29 : decode cX0_init 29 = .ok (.bipush 6, 2) := by decide +kernel
theorem dX0_init_31 : decode cX0_init 31 = .ok (.newarray .int, 2) := by decide +kernel
theorem dX0_init_33 : decode cX0_init 33 = .ok (.putfield 21, 3) := by decide +kernel
theorem dX0_init_36 : decode cX0_init 36 = .ok (.aload_n 0, 1) := by decide +kernel
theorem dX0_init_37 : decode cX0_init 37 = .ok (.aload_n 1, 1) := by decide +kernel
theorem dX0_init_38 : decode cX0_init 38 = .ok (.putfield 24, 3) := by decide +kernel
theorem dX0_init_41 : decode cX0_init 41 = .ok (.return_, 1) := by decide +kernel
theorem dX0_takeFrom_0 : decode cX0_takeFrom 0 = .ok (.aload_n 1, 1) := by decide +kernel
theorem dX0_takeFrom_1 : decode cX0_takeFrom 1 = .ok (.getfield 9, 3) := by decide +kernel
theorem dX0_takeFrom_4 : decode cX0_takeFrom 4 = .ok (.iconst 0, 1) := by decide +kernel
theorem dX0_takeFrom_5 : decode cX0_takeFrom 5 = .ok (.aload_n 0, 1) := by decide +kernel
theorem dX0_takeFrom_6 : decode cX0_takeFrom 6 = .ok (.getfield 9, 3) := by decide +kernel
theorem dX0_takeFrom_9 : decode cX0_takeFrom 9 = .ok (.iconst 0, 1) := by decide +kernel
theorem dX0_takeFrom_10 : decode cX0_takeFrom 10 = .ok (.bipush 6, 2) := by decide +kernel
theorem dX0_takeFrom_12 : decode cX0_takeFrom 12 = .ok (.invokestatic 28, 3) := by decide +kernel
theorem dX0_takeFrom_15 : decode cX0_takeFrom 15 = .ok (.aload_n 1, 1) := by decide +kernel
theorem dX0_takeFrom_16 : decode cX0_takeFrom 16 = .ok (.getfield 15, 3) := by decide +kernel
theorem dX0_takeFrom_19 : decode cX0_takeFrom 19 = .ok (.iconst 0, 1) := by decide +kernel
theorem dX0_takeFrom_20 : decode cX0_takeFrom 20 = .ok (.aload_n 0, 1) := by decide +kernel
theorem dX0_takeFrom_21 : decode cX0_takeFrom 21 = .ok (.getfield 15, 3) := by decide +kernel
theorem dX0_takeFrom_24 : decode cX0_takeFrom 24 = .ok (.iconst 0, 1) := by decide +kernel
theorem dX0_takeFrom_25 : decode cX0_takeFrom 25 = .ok (.bipush 6, 2) := by decide +kernel
theorem dX0_takeFrom_27 : decode cX0_takeFrom 27 = .ok (.invokestatic 28, 3) := by decide +kernel
theorem dX0_takeFrom_30 : decode cX0_takeFrom 30 = .ok (.aload_n 1, 1) := by decide +kernel
theorem dX0_takeFrom_31 : decode cX0_takeFrom 31 = .ok (.getfield 18, 3) := by decide +kernel
theorem dX0_takeFrom_34 : decode cX0_takeFrom 34 = .ok (.iconst 0, 1) := by decide +kernel
theorem dX0_takeFrom_35 : decode cX0_takeFrom 35 = .ok (.aload_n 0, 1) := by decide +kernel
theorem dX0_takeFrom_36 : decode cX0_takeFrom 36 = .ok (.getfield 18, 3) := by decide +kernel
theorem dX0_takeFrom_39 : decode cX0_takeFrom 39 = .ok (.iconst 0, 1) := by decide +kernel
theorem dX0_takeFrom_40 : decode cX0_takeFrom 40 = .ok (.bipush 6, 2) := by decide +kernel
theorem dX0_takeFrom_42 : decode cX0_takeFrom 42 = .ok (.invokestatic 28, 3) := by decide +kernel
theorem dX0_takeFrom_45 : decode cX0_takeFrom 45 = .ok (.aload_n 1, 1) := by decide +kernel
theorem dX0_takeFrom_46 : decode cX0_takeFrom 46 = .ok (.getfield 21, 3) := by decide +kernel
theorem dX0_takeFrom_49 : decode cX0_takeFrom 49 = .ok (.iconst 0, 1) := by decide +kernel
theorem dX0_takeFrom_50 : decode cX0_takeFrom 50 = .ok (.aload_n 0, 1) := by decide +kernel
theorem dX0_takeFrom_51 : decode cX0_takeFrom 51 = .ok (.getfield 21, 3) := by decide +kernel
theorem dX0_takeFrom_54 : decode cX0_takeFrom 54 = .ok (.iconst 0, 1) := by decide +kernel
theorem dX0_takeFrom_55 : decode cX0_takeFrom 55 = .ok (.bipush 6, 2) := by decide +kernel
theorem dX0_takeFrom_57 : decode cX0_takeFrom 57 = .ok (.invokestatic 28, 3) := by decide +kernel
theorem dX0_takeFrom_60 : decode cX0_takeFrom 60 = .ok (.aload_n 0, 1) := by decide +kernel
theorem dX0_takeFrom_61 : decode cX0_takeFrom 61 = .ok (.aload_n 1, 1) := by decide +kernel
theorem dX0_takeFrom_62 : decode cX0_takeFrom 62 = .ok (.getfield 34, 3) := by decide +kernel
theorem dX0_takeFrom_65 : decode cX0_takeFrom 65 = .ok (.putfield 34, 3) := by decide +kernel
theorem dX0_takeFrom_68 : decode cX0_takeFrom 68 = .ok (.aload_n 0, 1) := by decide +kernel
theorem dX0_takeFrom_69 : decode cX0_takeFrom 69 = .ok (.aload_n 1, 1) := by decide +kernel
theorem dX0_takeFrom_70 : decode cX0_takeFrom 70 = .ok (.getfield 38, 3) := by decide +kernel
theorem dX0_takeFrom_73 : decode cX0_takeFrom 73 = .ok (.putfield 38, 3) := by decide +kernel
theorem dX0_takeFrom_76 : decode cX0_takeFrom 76 = .ok (.aload_n 0, 1) := by decide +kernel
theorem dX0_takeFrom_77 : decode cX0_takeFrom 77 = .ok (.aload_n 1, 1) := by decide +kernel
theorem dX0_takeFrom_78 : decode cX0_takeFrom 78 = .ok (.getfield 41, 3) := by decide +kernel
theorem dX0_takeFrom_81 : decode cX0_takeFrom 81 = .ok (.putfield 41, 3) := by decide +kernel
theorem dX0_takeFrom_84 : decode cX0_takeFrom 84 = .ok (.aload_n 0, 1) := by decide +kernel
theorem dX0_takeFrom_85 : decode cX0_takeFrom 85 = .ok (.aload_n 1, 1) := by decide +kernel
theorem dX0_takeFrom_86 : decode cX0_takeFrom 86 = .ok (.getfield 44, 3) := by decide +kernel
theorem dX0_takeFrom_89 : decode cX0_takeFrom 89 = .ok (.putfield 44, 3) := by decide +kernel
theorem dX0_takeFrom_92 : decode cX0_takeFrom 92 = .ok (.aload_n 0, 1) := by decide +kernel
theorem dX0_takeFrom_93 : decode cX0_takeFrom 93 = .ok (.aload_n 1, 1) := by decide +kernel
theorem dX0_takeFrom_94 : decode cX0_takeFrom 94 = .ok (.getfield 47, 3) := by decide +kernel
theorem dX0_takeFrom_97 : decode cX0_takeFrom 97 = .ok (.putfield 47, 3) := by decide +kernel
theorem dX0_takeFrom_100 : decode cX0_takeFrom 100 = .ok (.return_, 1) := by decide +kernel
theorem dX0_has_0 : decode cX0_has 0 = .ok (.iload_n 1, 1) := by decide +kernel
theorem dX0_has_1 : decode cX0_has 1 = .ok (.ifCond .lt 21, 3) := by decide +kernel
theorem dX0_has_4 : decode cX0_has 4 = .ok (.iload_n 1, 1) := by decide +kernel
theorem dX0_has_5 : decode cX0_has 5 = .ok (.aload_n 0, 1) := by decide +kernel
theorem dX0_has_6 : decode cX0_has 6 = .ok (.getfield 34, 3) := by decide +kernel
theorem dX0_has_9 : decode cX0_has 9 = .ok (.if_icmp .ge 13, 3) := by decide +kernel
theorem dX0_has_12 : decode cX0_has 12 = .ok (.iload_n 1, 1) := by decide +kernel
theorem dX0_has_13 : decode cX0_has 13 = .ok (.bipush 6, 2) := by decide +kernel
theorem dX0_has_15 : decode cX0_has 15 = .ok (.if_icmp .ge 7, 3) := by decide +kernel
theorem dX0_has_18 : decode cX0_has 18 = .ok (.iconst 1, 1) := by decide +kernel
theorem dX0_has_19 : decode cX0_has 19 = .ok (.goto 4, 3) := by decide +kernel
theorem dX0_has_22 : decode cX0_has 22 = .ok (.iconst 0, 1) := by decide +kernel
theorem dX0_has_23 : decode cX0_has 23 = .ok (.ireturn, 1) := by decide +kernel
theorem dX0_join_0 : decode cX0_join 0 = .ok (.iload_n 1, 1) := by decide +kernel
theorem dX0_join_1 : decode cX0_join 1 = .ok (.ifCond .lt 29, 3) := by decide +kernel
theorem dX0_join_4 : decode cX0_join 4 = .ok (.iload_n 1, 1) := by decide +kernel
theorem dX0_join_5 : decode cX0_join 5 = .ok (.bipush 6, 2) := by decide +kernel
theorem dX0_join_7 : decode cX0_join 7 = .ok (.if_icmp .ge 23, 3) := by decide +kernel
theorem dX0_join_10 : decode cX0_join 10 = .ok (.iload_n 2, 1) := by decide +kernel
theorem dX0_join_11 : decode cX0_join 11 = .ok (.ifCond .lt 19, 3) := by decide +kernel
theorem dX0_join_14 : decode cX0_join 14 = .ok (.iload_n 2, 1) := by decide +kernel
theorem dX0_join_15 : decode cX0_join 15 = .ok (.bipush 9, 2) := by decide +kernel
theorem dX0_join_17 : decode cX0_join 17 = .ok (.if_icmp .gt 13, 3) := by decide +kernel
theorem dX0_join_20 : decode cX0_join 20 = .ok (.iload_n 3, 1) := by decide +kernel
theorem dX0_join_21 : decode cX0_join 21 = .ok (.ifCond .lt 9, 3) := by decide +kernel
theorem dX0_join_24 : decode cX0_join 24 = .ok (.iload_n 3, 1) := by decide +kernel
theorem dX0_join_25 : decode cX0_join 25 = .ok (.bipush 99, 2) := by decide +kernel
theorem dX0_join_27 : decode cX0_join 27 = .ok (.if_icmp .le 6, 3) := by decide +kernel
theorem dX0_join_30 : decode cX0_join 30 = .ok (.bipush (-2), 2) := by decide +kernel
theorem dX0_join_32 : decode cX0_join 32 = .ok (.ireturn, 1) := by decide +kernel
theorem dX0_join_33 : decode cX0_join 33 = .ok (.aload_n 0, 1) := by decide +kernel
theorem dX0_join_34 : decode cX0_join 34 = .ok (.getfield 34, 3) := by decide +kernel
theorem dX0_join_37 : decode cX0_join 37 = .ok (.bipush 6, 2) := by decide +kernel
theorem dX0_join_39 : decode cX0_join 39 = .ok (.if_icmp .lt 6, 3) := by decide +kernel
theorem dX0_join_42 : decode cX0_join 42 = .ok (.bipush (-4), 2) := by decide +kernel
theorem dX0_join_44 : decode cX0_join 44 = .ok (.ireturn, 1) := by decide +kernel
theorem dX0_join_45 : decode cX0_join 45 = .ok (.aload_n 0, 1) := by decide +kernel
theorem dX0_join_46 : decode cX0_join 46 = .ok (.getfield 34, 3) := by decide +kernel
theorem dX0_join_49 : decode cX0_join 49 = .ok (.istore 4, 2) := by decide +kernel
theorem dX0_join_51 : decode cX0_join 51 = .ok (.aload_n 0, 1) := by decide +kernel
theorem dX0_join_52 : decode cX0_join 52 = .ok (.getfield 9, 3) := by decide +kernel
theorem dX0_join_55 : decode cX0_join 55 = .ok (.iload 4, 2) := by decide +kernel
theorem dX0_join_57 : decode cX0_join 57 = .ok (.iload_n 1, 1) := by decide +kernel
theorem dX0_join_58 : decode cX0_join 58 = .ok (.iastore, 1) := by decide +kernel
theorem dX0_join_59 : decode cX0_join 59 = .ok (.aload_n 0, 1) := by decide +kernel
theorem dX0_join_60 : decode cX0_join 60 = .ok (.getfield 15, 3) := by decide +kernel
theorem dX0_join_63 : decode cX0_join 63 = .ok (.iload 4, 2) := by decide +kernel
theorem dX0_join_65 : decode cX0_join 65 = .ok (.iload_n 2, 1) := by decide +kernel
theorem dX0_join_66 : decode cX0_join 66 = .ok (.iastore, 1) := by decide +kernel
theorem dX0_join_67 : decode cX0_join 67 = .ok (.aload_n 0, 1) := by decide +kernel
theorem dX0_join_68 : decode cX0_join 68 = .ok (.getfield 18, 3) := by decide +kernel
theorem dX0_join_71 : decode cX0_join 71 = .ok (.iload 4, 2) := by decide +kernel
theorem dX0_join_73 : decode cX0_join 73 = .ok (.iload_n 3, 1) := by decide +kernel
theorem dX0_join_74 : decode cX0_join 74 = .ok (.iastore, 1) := by decide +kernel
theorem dX0_join_75 : decode cX0_join 75 = .ok (.aload_n 0, 1) := by decide +kernel
theorem dX0_join_76 : decode cX0_join 76 = .ok (.dup, 1) := by decide +kernel
theorem dX0_join_77 : decode cX0_join 77 = .ok (.getfield 34, 3) := by decide +kernel
theorem dX0_join_80 : decode cX0_join 80 = .ok (.iconst 1, 1) := by decide +kernel
theorem dX0_join_81 : decode cX0_join 81 = .ok (.iadd, 1) := by decide +kernel
theorem dX0_join_82 : decode cX0_join 82 = .ok (.putfield 34, 3) := by decide +kernel
theorem dX0_join_85 : decode cX0_join 85 = .ok (.aload_n 0, 1) := by decide +kernel
theorem dX0_join_86 : decode cX0_join 86 = .ok (.iload 4, 2) := by decide +kernel
theorem dX0_join_88 : decode cX0_join 88 = .ok (.aload_n 0, 1) := by decide +kernel
theorem dX0_join_89 : decode cX0_join 89 = .ok (.getfield 38, 3) := by decide +kernel
theorem dX0_join_92 : decode cX0_join 92 = .ok (.invokevirtual 50, 3) := by decide +kernel
theorem dX0_join_95 : decode cX0_join 95 = .ok (.iload 4, 2) := by decide +kernel
theorem dX0_join_97 : decode cX0_join 97 = .ok (.ireturn, 1) := by decide +kernel
theorem dX0_trait_0 : decode cX0_trait 0 = .ok (.iload_n 1, 1) := by decide +kernel
theorem dX0_trait_1 : decode cX0_trait 1 = .ok (.ifCond .eq 8, 3) := by decide +kernel
theorem dX0_trait_4 : decode cX0_trait 4 = .ok (.iload_n 1, 1) := by decide +kernel
theorem dX0_trait_5 : decode cX0_trait 5 = .ok (.iconst 1, 1) := by decide +kernel
theorem dX0_trait_6 : decode cX0_trait 6 = .ok (.if_icmp .ne 19, 3) := by decide +kernel
theorem dX0_trait_9 : decode cX0_trait 9 = .ok (.iload_n 1, 1) := by decide +kernel
theorem dX0_trait_10 : decode cX0_trait 10 = .ok (.ifCond .ne 10, 3) := by decide +kernel
theorem dX0_trait_13 : decode cX0_trait 13 = .ok (.aload_n 0, 1) := by decide +kernel
theorem dX0_trait_14 : decode cX0_trait 14 = .ok (.getfield 41, 3) := by decide +kernel
theorem dX0_trait_17 : decode cX0_trait 17 = .ok (.goto 7, 3) := by decide +kernel
theorem dX0_trait_20 : decode cX0_trait 20 = .ok (.aload_n 0, 1) := by decide +kernel
theorem dX0_trait_21 : decode cX0_trait 21 = .ok (.getfield 44, 3) := by decide +kernel
theorem dX0_trait_24 : decode cX0_trait 24 = .ok (.ireturn, 1) := by decide +kernel
theorem dX0_trait_25 : decode cX0_trait 25 = .ok (.aload_n 0, 1) := by decide +kernel
theorem dX0_trait_26 : decode cX0_trait 26 = .ok (.iload_n 2, 1) := by decide +kernel
theorem dX0_trait_27 : decode cX0_trait 27 = .ok (.invokevirtual 54, 3) := by decide +kernel
theorem dX0_trait_30 : decode cX0_trait 30 = .ok (.ifCond .ne 7, 3) := by decide +kernel
theorem dX0_trait_33 : decode cX0_trait 33 = .ok (.sipush (-1000), 3) := by decide +kernel
theorem dX0_trait_36 : decode cX0_trait 36 = .ok (.ireturn, 1) := by decide +kernel
theorem dX0_trait_37 : decode cX0_trait 37 = .ok (.iload_n 1, 1) := by decide +kernel
theorem dX0_trait_38 : decode cX0_trait 38 = .ok (.iconst 2, 1) := by decide +kernel
theorem dX0_trait_39 : decode cX0_trait 39 = .ok (.if_icmp .ne 12, 3) := by decide +kernel
theorem dX0_trait_42 : decode cX0_trait 42 = .ok (.aload_n 0, 1) := by decide +kernel
theorem dX0_trait_43 : decode cX0_trait 43 = .ok (.getfield 15, 3) := by decide +kernel
theorem dX0_trait_46 : decode cX0_trait 46 = .ok (.iload_n 2, 1) := by decide +kernel
theorem dX0_trait_47 : decode cX0_trait 47 = .ok (.iaload, 1) := by decide +kernel
theorem dX0_trait_48 : decode cX0_trait 48 = .ok (.goto 23, 3) := by decide +kernel
theorem dX0_trait_51 : decode cX0_trait 51 = .ok (.iload_n 1, 1) := by decide +kernel
theorem dX0_trait_52 : decode cX0_trait 52 = .ok (.iconst 3, 1) := by decide +kernel
theorem dX0_trait_53 : decode cX0_trait 53 = .ok (.if_icmp .ne 12, 3) := by decide +kernel
theorem dX0_trait_56 : decode cX0_trait 56 = .ok (.aload_n 0, 1) := by decide +kernel
theorem dX0_trait_57 : decode cX0_trait 57 = .ok (.getfield 18, 3) := by decide +kernel
theorem dX0_trait_60 : decode cX0_trait 60 = .ok (.iload_n 2, 1) := by decide +kernel
theorem dX0_trait_61 : decode cX0_trait 61 = .ok (.iaload, 1) := by decide +kernel
theorem dX0_trait_62 : decode cX0_trait 62 = .ok (.goto 9, 3) := by decide +kernel
theorem dX0_trait_65 : decode cX0_trait 65 = .ok (.aload_n 0, 1) := by decide +kernel
theorem dX0_trait_66 : decode cX0_trait 66 = .ok (.getfield 9, 3) := by decide +kernel
theorem dX0_trait_69 : decode cX0_trait 69 = .ok (.iload_n 2, 1) := by decide +kernel
theorem dX0_trait_70 : decode cX0_trait 70 = .ok (.iaload, 1) := by decide +kernel
theorem dX0_trait_71 : decode cX0_trait 71 = .ok (.ireturn, 1) := by decide +kernel
theorem dX0_suppose_0 : decode cX0_suppose 0 = .ok (.iload_n 1, 1) := by decide +kernel
theorem dX0_suppose_1 : decode cX0_suppose 1 = .ok (.ifCond .ne 11, 3) := by decide +kernel
theorem dX0_suppose_4 : decode cX0_suppose 4 = .ok (.aload_n 0, 1) := by decide +kernel
theorem dX0_suppose_5 : decode cX0_suppose 5 = .ok (.iload_n 3, 1) := by decide +kernel
theorem dX0_suppose_6 : decode cX0_suppose 6 = .ok (.putfield 41, 3) := by decide +kernel
theorem dX0_suppose_9 : decode cX0_suppose 9 = .ok (.goto 73, 3) := by decide +kernel
theorem dX0_suppose_12 : decode cX0_suppose 12 = .ok (.iload_n 1, 1) := by decide +kernel
theorem dX0_suppose_13 : decode cX0_suppose 13 = .ok (.iconst 1, 1) := by decide +kernel
theorem dX0_suppose_14 : decode cX0_suppose 14 = .ok (.if_icmp .ne 11, 3) := by decide +kernel
theorem dX0_suppose_17 : decode cX0_suppose 17 = .ok (.aload_n 0, 1) := by decide +kernel
theorem dX0_suppose_18 : decode cX0_suppose 18 = .ok (.iload_n 3, 1) := by decide +kernel
theorem dX0_suppose_19 : decode cX0_suppose 19 = .ok (.putfield 44, 3) := by decide +kernel
theorem dX0_suppose_22 : decode cX0_suppose 22 = .ok (.goto 60, 3) := by decide +kernel
theorem dX0_suppose_25 : decode cX0_suppose 25 = .ok (.iload_n 1, 1) := by decide +kernel
theorem dX0_suppose_26 : decode cX0_suppose 26 = .ok (.bipush 9, 2) := by decide +kernel
theorem dX0_suppose_28 : decode cX0_suppose 28 = .ok (.if_icmp .ne 11, 3) := by decide +kernel
theorem dX0_suppose_31 : decode cX0_suppose 31 = .ok (.aload_n 0, 1) := by decide +kernel
theorem dX0_suppose_32 : decode cX0_suppose 32 = .ok (.iload_n 3, 1) := by decide +kernel
theorem dX0_suppose_33 : decode cX0_suppose 33 = .ok (.putfield 47, 3) := by decide +kernel
theorem dX0_suppose_36 : decode cX0_suppose 36 = .ok (.goto 46, 3) := by decide +kernel
theorem dX0_suppose_39 : decode cX0_suppose 39 = .ok (.aload_n 0, 1) := by decide +kernel
theorem dX0_suppose_40 : decode cX0_suppose 40 = .ok (.iload_n 2, 1) := by decide +kernel
theorem dX0_suppose_41 : decode cX0_suppose 41 = .ok (.invokevirtual 54, 3) := by decide +kernel
theorem dX0_suppose_44 : decode cX0_suppose 44 = .ok (.ifCond .eq 38, 3) := by decide +kernel
theorem dX0_suppose_47 : decode cX0_suppose 47 = .ok (.iload_n 1, 1) := by decide +kernel
theorem dX0_suppose_48 : decode cX0_suppose 48 = .ok (.iconst 2, 1) := by decide +kernel
theorem dX0_suppose_49 : decode cX0_suppose 49 = .ok (.if_icmp .ne 10, 3) := by decide +kernel
theorem dX0_suppose_52 : decode cX0_suppose 52 = .ok (.aload_n 0, 1) := by decide +kernel
theorem dX0_suppose_53 : decode cX0_suppose 53 = .ok (.getfield 15, 3) := by decide +kernel
theorem dX0_suppose_56 : decode cX0_suppose 56 = .ok (.goto 19, 3) := by decide +kernel
theorem dX0_suppose_59 : decode cX0_suppose 59 = .ok (.iload_n 1, 1) := by decide +kernel
theorem dX0_suppose_60 : decode cX0_suppose 60 = .ok (.iconst 3, 1) := by decide +kernel
theorem dX0_suppose_61 : decode cX0_suppose 61 = .ok (.if_icmp .ne 10, 3) := by decide +kernel
theorem dX0_suppose_64 : decode cX0_suppose 64 = .ok (.aload_n 0, 1) := by decide +kernel
theorem dX0_suppose_65 : decode cX0_suppose 65 = .ok (.getfield 18, 3) := by decide +kernel
theorem dX0_suppose_68 : decode cX0_suppose 68 = .ok (.goto 7, 3) := by decide +kernel
theorem dX0_suppose_71 : decode cX0_suppose 71 = .ok (.aload_n 0, 1) := by decide +kernel
theorem dX0_suppose_72 : decode cX0_suppose 72 = .ok (.getfield 9, 3) := by decide +kernel
theorem dX0_suppose_75 : decode cX0_suppose 75 = .ok (.astore 4, 2) := by decide +kernel
theorem dX0_suppose_77 : decode cX0_suppose 77 = .ok (.aload 4, 2) := by decide +kernel
theorem dX0_suppose_79 : decode cX0_suppose 79 = .ok (.iload_n 2, 1) := by decide +kernel
theorem dX0_suppose_80 : decode cX0_suppose 80 = .ok (.iload_n 3, 1) := by decide +kernel
theorem dX0_suppose_81 : decode cX0_suppose 81 = .ok (.iastore, 1) := by decide +kernel
theorem dX0_suppose_82 : decode cX0_suppose 82 = .ok (.return_, 1) := by decide +kernel
theorem dX0_who_0 : decode cX0_who 0 = .ok (.iload_n 1, 1) := by decide +kernel
theorem dX0_who_1 : decode cX0_who 1 = .ok (.ifCond .lt 26, 3) := by decide +kernel
theorem dX0_who_4 : decode cX0_who 4 = .ok (.iload_n 1, 1) := by decide +kernel
theorem dX0_who_5 : decode cX0_who 5 = .ok (.aload_n 0, 1) := by decide +kernel
theorem dX0_who_6 : decode cX0_who 6 = .ok (.getfield 38, 3) := by decide +kernel
theorem dX0_who_9 : decode cX0_who 9 = .ok (.if_icmp .ge 18, 3) := by decide +kernel
theorem dX0_who_12 : decode cX0_who 12 = .ok (.iload_n 1, 1) := by decide +kernel
theorem dX0_who_13 : decode cX0_who 13 = .ok (.bipush 6, 2) := by decide +kernel
theorem dX0_who_15 : decode cX0_who 15 = .ok (.if_icmp .ge 12, 3) := by decide +kernel
theorem dX0_who_18 : decode cX0_who 18 = .ok (.aload_n 0, 1) := by decide +kernel
theorem dX0_who_19 : decode cX0_who 19 = .ok (.getfield 21, 3) := by decide +kernel
theorem dX0_who_22 : decode cX0_who 22 = .ok (.iload_n 1, 1) := by decide +kernel
theorem dX0_who_23 : decode cX0_who 23 = .ok (.iaload, 1) := by decide +kernel
theorem dX0_who_24 : decode cX0_who 24 = .ok (.goto 4, 3) := by decide +kernel
theorem dX0_who_27 : decode cX0_who 27 = .ok (.iconst (-1), 1) := by decide +kernel
theorem dX0_who_28 : decode cX0_who 28 = .ok (.ireturn, 1) := by decide +kernel
theorem dX0_placeOf_0 : decode cX0_placeOf 0 = .ok (.iconst 0, 1) := by decide +kernel
theorem dX0_placeOf_1 : decode cX0_placeOf 1 = .ok (.istore_n 2, 1) := by decide +kernel
theorem dX0_placeOf_2 : decode cX0_placeOf 2 = .ok (.iload_n 2, 1) := by decide +kernel
theorem dX0_placeOf_3 : decode cX0_placeOf 3 = .ok (.aload_n 0, 1) := by decide +kernel
theorem dX0_placeOf_4 : decode cX0_placeOf 4 = .ok (.getfield 38, 3) := by decide +kernel
theorem dX0_placeOf_7 : decode cX0_placeOf 7 = .ok (.if_icmp .ge 27, 3) := by decide +kernel
theorem dX0_placeOf_10 : decode cX0_placeOf 10 = .ok (.iload_n 2, 1) := by decide +kernel
theorem dX0_placeOf_11 : decode cX0_placeOf 11 = .ok (.bipush 6, 2) := by decide +kernel
theorem dX0_placeOf_13 : decode cX0_placeOf 13 = .ok (.if_icmp .ge 21, 3) := by decide +kernel
theorem dX0_placeOf_16 : decode cX0_placeOf 16 = .ok (.aload_n 0, 1) := by decide +kernel
theorem dX0_placeOf_17 : decode cX0_placeOf 17 = .ok (.getfield 21, 3) := by decide +kernel
theorem dX0_placeOf_20 : decode cX0_placeOf 20 = .ok (.iload_n 2, 1) := by decide +kernel
theorem dX0_placeOf_21 : decode cX0_placeOf 21 = .ok (.iaload, 1) := by decide +kernel
theorem dX0_placeOf_22 : decode cX0_placeOf 22 = .ok (.iload_n 1, 1) := by decide +kernel
theorem dX0_placeOf_23 : decode cX0_placeOf 23 = .ok (.if_icmp .ne 5, 3) := by decide +kernel
theorem dX0_placeOf_26 : decode cX0_placeOf 26 = .ok (.iload_n 2, 1) := by decide +kernel
theorem dX0_placeOf_27 : decode cX0_placeOf 27 = .ok (.ireturn, 1) := by decide +kernel
theorem dX0_placeOf_28 : decode cX0_placeOf 28 = .ok (.iinc 2 1, 3) := by decide +kernel
theorem dX0_placeOf_31 : decode cX0_placeOf 31 = .ok (.goto (-29), 3) := by decide +kernel
theorem dX0_placeOf_34 : decode cX0_placeOf 34 = .ok (.iconst (-1), 1) := by decide +kernel
theorem dX0_placeOf_35 : decode cX0_placeOf 35 = .ok (.ireturn, 1) := by decide +kernel
theorem dX0_placeBehind_0 : decode cX0_placeBehind 0 = .ok (.iload_n 1, 1) := by decide +kernel
theorem dX0_placeBehind_1 : decode cX0_placeBehind 1 = .ok (.iconst 1, 1) := by decide +kernel
theorem dX0_placeBehind_2 : decode cX0_placeBehind 2 = .ok (.iadd, 1) := by decide +kernel
theorem dX0_placeBehind_3 : decode cX0_placeBehind 3 = .ok (.aload_n 0, 1) := by decide +kernel
theorem dX0_placeBehind_4 : decode cX0_placeBehind 4 = .ok (.getfield 38, 3) := by decide +kernel
theorem dX0_placeBehind_7 : decode cX0_placeBehind 7 = .ok (.if_icmp .ge 9, 3) := by decide +kernel
theorem dX0_placeBehind_10 : decode cX0_placeBehind 10 = .ok (.iload_n 1, 1) := by decide +kernel
theorem dX0_placeBehind_11 : decode cX0_placeBehind 11 = .ok (.iconst 1, 1) := by decide +kernel
theorem dX0_placeBehind_12 : decode cX0_placeBehind 12 = .ok (.iadd, 1) := by decide +kernel
theorem dX0_placeBehind_13 : decode cX0_placeBehind 13 = .ok (.goto 4, 3) := by decide +kernel
theorem dX0_placeBehind_16 : decode cX0_placeBehind 16 = .ok (.iconst 0, 1) := by decide +kernel
theorem dX0_placeBehind_17 : decode cX0_placeBehind 17 = .ok (.ireturn, 1) := by decide +kernel
theorem dX0_leave_0 : decode cX0_leave 0 = .ok (.iload_n 1, 1) := by decide +kernel
theorem dX0_leave_1 : decode cX0_leave 1 = .ok (.ifCond .lt 20, 3) := by decide +kernel
theorem dX0_leave_4 : decode cX0_leave 4 = .ok (.iload_n 1, 1) := by decide +kernel
theorem dX0_leave_5 : decode cX0_leave 5 = .ok (.aload_n 0, 1) := by decide +kernel
theorem dX0_leave_6 : decode cX0_leave 6 = .ok (.getfield 38, 3) := by decide +kernel
theorem dX0_leave_9 : decode cX0_leave 9 = .ok (.if_icmp .ge 12, 3) := by decide +kernel
theorem dX0_leave_12 : decode cX0_leave 12 = .ok (.aload_n 0, 1) := by decide +kernel
theorem dX0_leave_13 : decode cX0_leave 13 = .ok (.getfield 38, 3) := by decide +kernel
theorem dX0_leave_16 : decode cX0_leave 16 = .ok (.bipush 6, 2) := by decide +kernel
theorem dX0_leave_18 : decode cX0_leave 18 = .ok (.if_icmp .le 4, 3) := by decide +kernel
theorem dX0_leave_21 : decode cX0_leave 21 = .ok (.return_, 1) := by decide +kernel
theorem dX0_leave_22 : decode cX0_leave 22 = .ok (.aload_n 0, 1) := by decide +kernel
theorem dX0_leave_23 : decode cX0_leave 23 = .ok (.dup, 1) := by decide +kernel
theorem dX0_leave_24 : decode cX0_leave 24 = .ok (.getfield 38, 3) := by decide +kernel
theorem dX0_leave_27 : decode cX0_leave 27 = .ok (.iconst 1, 1) := by decide +kernel
theorem dX0_leave_28 : decode cX0_leave 28 = .ok (.isub, 1) := by decide +kernel
theorem dX0_leave_29 : decode cX0_leave 29 = .ok (.putfield 38, 3) := by decide +kernel
theorem dX0_leave_32 : decode cX0_leave 32 = .ok (.iload_n 1, 1) := by decide +kernel
theorem dX0_leave_33 : decode cX0_leave 33 = .ok (.istore_n 2, 1) := by decide +kernel
theorem dX0_leave_34 : decode cX0_leave 34 = .ok (.iload_n 2, 1) := by decide +kernel
theorem dX0_leave_35 : decode cX0_leave 35 = .ok (.aload_n 0, 1) := by decide +kernel
theorem dX0_leave_36 : decode cX0_leave 36 = .ok (.getfield 38, 3) := by decide +kernel
theorem dX0_leave_39 : decode cX0_leave 39 = .ok (.if_icmp .ge 23, 3) := by decide +kernel
theorem dX0_leave_42 : decode cX0_leave 42 = .ok (.aload_n 0, 1) := by decide +kernel
theorem dX0_leave_43 : decode cX0_leave 43 = .ok (.getfield 21, 3) := by decide +kernel
theorem dX0_leave_46 : decode cX0_leave 46 = .ok (.iload_n 2, 1) := by decide +kernel
theorem dX0_leave_47 : decode cX0_leave 47 = .ok (.aload_n 0, 1) := by decide +kernel
theorem dX0_leave_48 : decode cX0_leave 48 = .ok (.getfield 21, 3) := by decide +kernel
theorem dX0_leave_51 : decode cX0_leave 51 = .ok (.iload_n 2, 1) := by decide +kernel
theorem dX0_leave_52 : decode cX0_leave 52 = .ok (.iconst 1, 1) := by decide +kernel
theorem dX0_leave_53 : decode cX0_leave 53 = .ok (.iadd, 1) := by decide +kernel
theorem dX0_leave_54 : decode cX0_leave 54 = .ok (.iaload, 1) := by decide +kernel
theorem dX0_leave_55 : decode cX0_leave 55 = .ok (.iastore, 1) := by decide +kernel
theorem dX0_leave_56 : decode cX0_leave 56 = .ok (.iinc 2 1, 3) := by decide +kernel
theorem dX0_leave_59 : decode cX0_leave 59 = .ok (.goto (-25), 3) := by decide +kernel
theorem dX0_leave_62 : decode cX0_leave 62 = .ok (.return_, 1) := by decide +kernel
theorem dX0_enter_0 : decode cX0_enter 0 = .ok (.iload_n 2, 1) := by decide +kernel
theorem dX0_enter_1 : decode cX0_enter 1 = .ok (.ifCond .lt 20, 3) := by decide +kernel
theorem dX0_enter_4 : decode cX0_enter 4 = .ok (.iload_n 2, 1) := by decide +kernel
theorem dX0_enter_5 : decode cX0_enter 5 = .ok (.aload_n 0, 1) := by decide +kernel
theorem dX0_enter_6 : decode cX0_enter 6 = .ok (.getfield 38, 3) := by decide +kernel
theorem dX0_enter_9 : decode cX0_enter 9 = .ok (.if_icmp .gt 12, 3) := by decide +kernel
theorem dX0_enter_12 : decode cX0_enter 12 = .ok (.aload_n 0, 1) := by decide +kernel
theorem dX0_enter_13 : decode cX0_enter 13 = .ok (.getfield 38, 3) := by decide +kernel
theorem dX0_enter_16 : decode cX0_enter 16 = .ok (.bipush 6, 2) := by decide +kernel
theorem dX0_enter_18 : decode cX0_enter 18 = .ok (.if_icmp .lt 4, 3) := by decide +kernel
theorem dX0_enter_21 : decode cX0_enter 21 = .ok (.return_, 1) := by decide +kernel
theorem dX0_enter_22 : decode cX0_enter 22 = .ok (.aload_n 0, 1) := by decide +kernel
theorem dX0_enter_23 : decode cX0_enter 23 = .ok (.getfield 38, 3) := by decide +kernel
theorem dX0_enter_26 : decode cX0_enter 26 = .ok (.istore_n 3, 1) := by decide +kernel
theorem dX0_enter_27 : decode cX0_enter 27 = .ok (.iload_n 3, 1) := by decide +kernel
theorem dX0_enter_28 : decode cX0_enter 28 = .ok (.iload_n 2, 1) := by decide +kernel
theorem dX0_enter_29 : decode cX0_enter 29 = .ok (.if_icmp .le 23, 3) := by decide +kernel
theorem dX0_enter_32 : decode cX0_enter 32 = .ok (.aload_n 0, 1) := by decide +kernel
theorem dX0_enter_33 : decode cX0_enter 33 = .ok (.getfield 21, 3) := by decide +kernel
theorem dX0_enter_36 : decode cX0_enter 36 = .ok (.iload_n 3, 1) := by decide +kernel
theorem dX0_enter_37 : decode cX0_enter 37 = .ok (.aload_n 0, 1) := by decide +kernel
theorem dX0_enter_38 : decode cX0_enter 38 = .ok (.getfield 21, 3) := by decide +kernel
theorem dX0_enter_41 : decode cX0_enter 41 = .ok (.iload_n 3, 1) := by decide +kernel
theorem dX0_enter_42 : decode cX0_enter 42 = .ok (.iconst 1, 1) := by decide +kernel
theorem dX0_enter_43 : decode cX0_enter 43 = .ok (.isub, 1) := by decide +kernel
theorem dX0_enter_44 : decode cX0_enter 44 = .ok (.iaload, 1) := by decide +kernel
theorem dX0_enter_45 : decode cX0_enter 45 = .ok (.iastore, 1) := by decide +kernel
theorem dX0_enter_46 : decode cX0_enter 46 = .ok (.iinc 3 (-1), 3) := by decide +kernel
theorem dX0_enter_49 : decode cX0_enter 49 = .ok (.goto (-22), 3) := by decide +kernel
theorem dX0_enter_52 : decode cX0_enter 52 = .ok (.aload_n 0, 1) := by decide +kernel
theorem dX0_enter_53 : decode cX0_enter 53 = .ok (.getfield 21, 3) := by decide +kernel
theorem dX0_enter_56 : decode cX0_enter 56 = .ok (.iload_n 2, 1) := by decide +kernel
theorem dX0_enter_57 : decode cX0_enter 57 = .ok (.iload_n 1, 1) := by decide +kernel
theorem dX0_enter_58 : decode cX0_enter 58 = .ok (.iastore, 1) := by decide +kernel
theorem dX0_enter_59 : decode cX0_enter 59 = .ok (.aload_n 0, 1) := by decide +kernel
theorem dX0_enter_60 : decode cX0_enter 60 = .ok (.dup, 1) := by decide +kernel
theorem dX0_enter_61 : decode cX0_enter 61 = .ok (.getfield 38, 3) := by decide +kernel
theorem dX0_enter_64 : decode cX0_enter 64 = .ok (.iconst 1, 1) := by decide +kernel
theorem dX0_enter_65 : decode cX0_enter 65 = .ok (.iadd, 1) := by decide +kernel
theorem dX0_enter_66 : decode cX0_enter 66 = .ok (.putfield 38, 3) := by decide +kernel
theorem dX0_enter_69 : decode cX0_enter 69 = .ok (.return_, 1) := by decide +kernel
theorem dX0_exchange_0 : decode cX0_exchange 0 = .ok (.aload_n 0, 1) := by decide +kernel
theorem dX0_exchange_1 : decode cX0_exchange 1 = .ok (.iload_n 1, 1) := by decide +kernel
theorem dX0_exchange_2 : decode cX0_exchange 2 = .ok (.invokevirtual 58, 3) := by decide +kernel
theorem dX0_exchange_5 : decode cX0_exchange 5 = .ok (.istore_n 3, 1) := by decide +kernel
theorem dX0_exchange_6 : decode cX0_exchange 6 = .ok (.aload_n 0, 1) := by decide +kernel
theorem dX0_exchange_7 : decode cX0_exchange 7 = .ok (.iload_n 2, 1) := by decide +kernel
theorem dX0_exchange_8 : decode cX0_exchange 8 = .ok (.invokevirtual 58, 3) := by decide +kernel
theorem dX0_exchange_11 : decode cX0_exchange 11 = .ok (.istore 4, 2) := by decide +kernel
theorem dX0_exchange_13 : decode cX0_exchange 13 = .ok (.iload_n 3, 1) := by decide +kernel
theorem dX0_exchange_14 : decode cX0_exchange 14 = .ok (.iconst (-1), 1) := by decide +kernel
theorem dX0_exchange_15 : decode cX0_exchange 15 = .ok (.if_icmp .eq 24, 3) := by decide +kernel
theorem dX0_exchange_18 : decode cX0_exchange 18 = .ok (.iload 4, 2) := by decide +kernel
theorem dX0_exchange_20 : decode cX0_exchange 20 = .ok (.iconst (-1), 1) := by decide +kernel
theorem dX0_exchange_21 : decode cX0_exchange 21 = .ok (.if_icmp .eq 18, 3) := by decide +kernel
theorem dX0_exchange_24 : decode cX0_exchange 24 = .ok (.aload_n 0, 1) := by decide +kernel
theorem dX0_exchange_25 : decode cX0_exchange 25 = .ok (.getfield 21, 3) := by decide +kernel
theorem dX0_exchange_28 : decode cX0_exchange 28 = .ok (.iload_n 1, 1) := by decide +kernel
theorem dX0_exchange_29 : decode cX0_exchange 29 = .ok (.iload 4, 2) := by decide +kernel
theorem dX0_exchange_31 : decode cX0_exchange 31 = .ok (.iastore, 1) := by decide +kernel
theorem dX0_exchange_32 : decode cX0_exchange 32 = .ok (.aload_n 0, 1) := by decide +kernel
theorem dX0_exchange_33 : decode cX0_exchange 33 = .ok (.getfield 21, 3) := by decide +kernel
theorem dX0_exchange_36 : decode cX0_exchange 36 = .ok (.iload_n 2, 1) := by decide +kernel
theorem dX0_exchange_37 : decode cX0_exchange 37 = .ok (.iload_n 3, 1) := by decide +kernel
theorem dX0_exchange_38 : decode cX0_exchange 38 = .ok (.iastore, 1) := by decide +kernel
theorem dX0_exchange_39 : decode cX0_exchange 39 = .ok (.return_, 1) := by decide +kernel
theorem dX0_passHour_0 : decode cX0_passHour 0 = .ok (.iconst 0, 1) := by decide +kernel
theorem dX0_passHour_1 : decode cX0_passHour 1 = .ok (.istore_n 1, 1) := by decide +kernel
theorem dX0_passHour_2 : decode cX0_passHour 2 = .ok (.iload_n 1, 1) := by decide +kernel
theorem dX0_passHour_3 : decode cX0_passHour 3 = .ok (.aload_n 0, 1) := by decide +kernel
theorem dX0_passHour_4 : decode cX0_passHour 4 = .ok (.getfield 38, 3) := by decide +kernel
theorem dX0_passHour_7 : decode cX0_passHour 7 = .ok (.if_icmp .ge 45, 3) := by decide +kernel
theorem dX0_passHour_10 : decode cX0_passHour 10 = .ok (.aload_n 0, 1) := by decide +kernel
theorem dX0_passHour_11 : decode cX0_passHour 11 = .ok (.iload_n 1, 1) := by decide +kernel
theorem dX0_passHour_12 : decode cX0_passHour 12 = .ok (.invokevirtual 58, 3) := by decide +kernel
theorem dX0_passHour_15 : decode cX0_passHour 15 = .ok (.istore_n 2, 1) := by decide +kernel
theorem dX0_passHour_16 : decode cX0_passHour 16 = .ok (.aload_n 0, 1) := by decide +kernel
theorem dX0_passHour_17 : decode cX0_passHour 17 = .ok (.iload_n 2, 1) := by decide +kernel
theorem dX0_passHour_18 : decode cX0_passHour 18 = .ok (.invokevirtual 54, 3) := by decide +kernel
theorem dX0_passHour_21 : decode cX0_passHour 21 = .ok (.ifCond .eq 25, 3) := by decide +kernel
theorem dX0_passHour_24 : decode cX0_passHour 24 = .ok (.aload_n 0, 1) := by decide +kernel
theorem dX0_passHour_25 : decode cX0_passHour 25 = .ok (.getfield 18, 3) := by decide +kernel
theorem dX0_passHour_28 : decode cX0_passHour 28 = .ok (.iload_n 2, 1) := by decide +kernel
theorem dX0_passHour_29 : decode cX0_passHour 29 = .ok (.iconst 0, 1) := by decide +kernel
theorem dX0_passHour_30 : decode cX0_passHour 30 = .ok (.aload_n 0, 1) := by decide +kernel
theorem dX0_passHour_31 : decode cX0_passHour 31 = .ok (.getfield 18, 3) := by decide +kernel
theorem dX0_passHour_34 : decode cX0_passHour 34 = .ok (.iload_n 2, 1) := by decide +kernel
theorem dX0_passHour_35 : decode cX0_passHour 35 = .ok (.iaload, 1) := by decide +kernel
theorem dX0_passHour_36 : decode cX0_passHour 36 = .ok (.aload_n 0, 1) := by decide +kernel
theorem dX0_passHour_37 : decode cX0_passHour 37 = .ok (.iload_n 2, 1) := by decide +kernel
theorem dX0_passHour_38 : decode cX0_passHour 38 = .ok (.invokevirtual 62, 3) := by decide +kernel
theorem dX0_passHour_41 : decode cX0_passHour 41 = .ok (.isub, 1) := by decide +kernel
theorem dX0_passHour_42 : decode cX0_passHour 42 = .ok (.invokestatic 65, 3) := by decide +kernel
theorem dX0_passHour_45 : decode cX0_passHour 45 = .ok (.iastore, 1) := by decide +kernel
theorem dX0_passHour_46 : decode cX0_passHour 46 = .ok (.iinc 1 1, 3) := by decide +kernel
theorem dX0_passHour_49 : decode cX0_passHour 49 = .ok (.goto (-47), 3) := by decide +kernel
theorem dX0_passHour_52 : decode cX0_passHour 52 = .ok (.aload_n 0, 1) := by decide +kernel
theorem dX0_passHour_53 : decode cX0_passHour 53 = .ok (.dup, 1) := by decide +kernel
theorem dX0_passHour_54 : decode cX0_passHour 54 = .ok (.getfield 41, 3) := by decide +kernel
theorem dX0_passHour_57 : decode cX0_passHour 57 = .ok (.iconst 1, 1) := by decide +kernel
theorem dX0_passHour_58 : decode cX0_passHour 58 = .ok (.iadd, 1) := by decide +kernel
theorem dX0_passHour_59 : decode cX0_passHour 59 = .ok (.putfield 41, 3) := by decide +kernel
theorem dX0_passHour_62 : decode cX0_passHour 62 = .ok (.return_, 1) := by decide +kernel
theorem dX0_holds_0 : decode cX0_holds 0 = .ok (.aload_n 0, 1) := by decide +kernel
theorem dX0_holds_1 : decode cX0_holds 1 = .ok (.getfield 38, 3) := by decide +kernel
theorem dX0_holds_4 : decode cX0_holds 4 = .ok (.iconst 2, 1) := by decide +kernel
theorem dX0_holds_5 : decode cX0_holds 5 = .ok (.if_icmp .ge 7, 3) := by decide +kernel
theorem dX0_holds_8 : decode cX0_holds 8 = .ok (.iconst 0, 1) := by decide +kernel
theorem dX0_holds_9 : decode cX0_holds 9 = .ok (.goto 7, 3) := by decide +kernel
theorem dX0_holds_12 : decode cX0_holds 12 = .ok (.aload_n 0, 1) := by decide +kernel
theorem dX0_holds_13 : decode cX0_holds 13 = .ok (.getfield 38, 3) := by decide +kernel
theorem dX0_holds_16 : decode cX0_holds 16 = .ok (.ireturn, 1) := by decide +kernel
theorem dX0_holdFrom_0 : decode cX0_holdFrom 0 = .ok (.aload_n 0, 1) := by decide +kernel
theorem dX0_holdFrom_1 : decode cX0_holdFrom 1 = .ok (.iload_n 1, 1) := by decide +kernel
theorem dX0_holdFrom_2 : decode cX0_holdFrom 2 = .ok (.invokevirtual 58, 3) := by decide +kernel
theorem dX0_holdFrom_5 : decode cX0_holdFrom 5 = .ok (.istore_n 2, 1) := by decide +kernel
theorem dX0_holdFrom_6 : decode cX0_holdFrom 6 = .ok (.aload_n 0, 1) := by decide +kernel
theorem dX0_holdFrom_7 : decode cX0_holdFrom 7 = .ok (.aload_n 0, 1) := by decide +kernel
theorem dX0_holdFrom_8 : decode cX0_holdFrom 8 = .ok (.iload_n 1, 1) := by decide +kernel
theorem dX0_holdFrom_9 : decode cX0_holdFrom 9 = .ok (.invokevirtual 71, 3) := by decide +kernel
theorem dX0_holdFrom_12 : decode cX0_holdFrom 12 = .ok (.invokevirtual 58, 3) := by decide +kernel
theorem dX0_holdFrom_15 : decode cX0_holdFrom 15 = .ok (.istore_n 3, 1) := by decide +kernel
theorem dX0_holdFrom_16 : decode cX0_holdFrom 16 = .ok (.aload_n 0, 1) := by decide +kernel
theorem dX0_holdFrom_17 : decode cX0_holdFrom 17 = .ok (.iload_n 2, 1) := by decide +kernel
theorem dX0_holdFrom_18 : decode cX0_holdFrom 18 = .ok (.iload_n 3, 1) := by decide +kernel
theorem dX0_holdFrom_19 : decode cX0_holdFrom 19 = .ok (.invokevirtual 74, 3) := by decide +kernel
theorem dX0_holdFrom_22 : decode cX0_holdFrom 22 = .ok (.aload_n 0, 1) := by decide +kernel
theorem dX0_holdFrom_23 : decode cX0_holdFrom 23 = .ok (.iload_n 3, 1) := by decide +kernel
theorem dX0_holdFrom_24 : decode cX0_holdFrom 24 = .ok (.iload_n 2, 1) := by decide +kernel
theorem dX0_holdFrom_25 : decode cX0_holdFrom 25 = .ok (.invokevirtual 74, 3) := by decide +kernel
theorem dX0_holdFrom_28 : decode cX0_holdFrom 28 = .ok (.invokestatic 77, 3) := by decide +kernel
theorem dX0_holdFrom_31 : decode cX0_holdFrom 31 = .ok (.ireturn, 1) := by decide +kernel
theorem dX0_weakest_0 : decode cX0_weakest 0 = .ok (.aload_n 0, 1) := by decide +kernel
theorem dX0_weakest_1 : decode cX0_weakest 1 = .ok (.invokevirtual 80, 3) := by decide +kernel
theorem dX0_weakest_4 : decode cX0_weakest 4 = .ok (.istore_n 1, 1) := by decide +kernel
theorem dX0_weakest_5 : decode cX0_weakest 5 = .ok (.iconst (-1), 1) := by decide +kernel
theorem dX0_weakest_6 : decode cX0_weakest 6 = .ok (.istore_n 2, 1) := by decide +kernel
theorem dX0_weakest_7 : decode cX0_weakest 7 = .ok (.iconst 0, 1) := by decide +kernel
theorem dX0_weakest_8 : decode cX0_weakest 8 = .ok (.istore_n 3, 1) := by decide +kernel
theorem dX0_weakest_9 : decode cX0_weakest 9 = .ok (.iload_n 3, 1) := by decide +kernel
theorem dX0_weakest_10 : decode cX0_weakest 10 = .ok (.iload_n 1, 1) := by decide +kernel
theorem dX0_weakest_11 : decode cX0_weakest 11 = .ok (.if_icmp .ge 34, 3) := by decide +kernel
theorem dX0_weakest_14 : decode cX0_weakest 14 = .ok (.aload_n 0, 1) := by decide +kernel
theorem dX0_weakest_15 : decode cX0_weakest 15 = .ok (.iload_n 3, 1) := by decide +kernel
theorem dX0_weakest_16 : decode cX0_weakest 16 = .ok (.invokevirtual 84, 3) := by decide +kernel
theorem dX0_weakest_19 : decode cX0_weakest 19 = .ok (.istore 4, 2) := by decide +kernel
theorem dX0_weakest_21 : decode cX0_weakest 21 = .ok (.iload_n 2, 1) := by decide +kernel
theorem dX0_weakest_22 : decode cX0_weakest 22 = .ok (.iconst (-1), 1) := by decide +kernel
theorem dX0_weakest_23 : decode cX0_weakest 23 = .ok (.if_icmp .eq 9, 3) := by decide +kernel
theorem dX0_weakest_26 : decode cX0_weakest 26 = .ok (.iload 4, 2) := by decide +kernel
theorem dX0_weakest_28 : decode cX0_weakest 28 = .ok (.iload_n 2, 1) := by decide +kernel
theorem dX0_weakest_29 : decode cX0_weakest 29 = .ok (.if_icmp .ge 8, 3) := by decide +kernel
theorem dX0_weakest_32 : decode cX0_weakest 32 = .ok (.iload 4, 2) := by decide +kernel
theorem dX0_weakest_34 : decode cX0_weakest 34 = .ok (.goto 4, 3) := by decide +kernel
theorem dX0_weakest_37 : decode cX0_weakest 37 = .ok (.iload_n 2, 1) := by decide +kernel
theorem dX0_weakest_38 : decode cX0_weakest 38 = .ok (.istore_n 2, 1) := by decide +kernel
theorem dX0_weakest_39 : decode cX0_weakest 39 = .ok (.iinc 3 1, 3) := by decide +kernel
theorem dX0_weakest_42 : decode cX0_weakest 42 = .ok (.goto (-33), 3) := by decide +kernel
theorem dX0_weakest_45 : decode cX0_weakest 45 = .ok (.iload_n 2, 1) := by decide +kernel
theorem dX0_weakest_46 : decode cX0_weakest 46 = .ok (.ireturn, 1) := by decide +kernel
theorem dX0_gates_0 : decode cX0_gates 0 = .ok (.aload_n 0, 1) := by decide +kernel
theorem dX0_gates_1 : decode cX0_gates 1 = .ok (.invokevirtual 80, 3) := by decide +kernel
theorem dX0_gates_4 : decode cX0_gates 4 = .ok (.istore_n 1, 1) := by decide +kernel
theorem dX0_gates_5 : decode cX0_gates 5 = .ok (.iconst 0, 1) := by decide +kernel
theorem dX0_gates_6 : decode cX0_gates 6 = .ok (.istore_n 2, 1) := by decide +kernel
theorem dX0_gates_7 : decode cX0_gates 7 = .ok (.iconst 0, 1) := by decide +kernel
theorem dX0_gates_8 : decode cX0_gates 8 = .ok (.istore_n 3, 1) := by decide +kernel
theorem dX0_gates_9 : decode cX0_gates 9 = .ok (.iload_n 3, 1) := by decide +kernel
theorem dX0_gates_10 : decode cX0_gates 10 = .ok (.iload_n 1, 1) := by decide +kernel
theorem dX0_gates_11 : decode cX0_gates 11 = .ok (.if_icmp .ge 20, 3) := by decide +kernel
theorem dX0_gates_14 : decode cX0_gates 14 = .ok (.aload_n 0, 1) := by decide +kernel
theorem dX0_gates_15 : decode cX0_gates 15 = .ok (.iload_n 3, 1) := by decide +kernel
theorem dX0_gates_16 : decode cX0_gates 16 = .ok (.invokevirtual 84, 3) := by decide +kernel
theorem dX0_gates_19 : decode cX0_gates 19 = .ok (.ifCond .ne 6, 3) := by decide +kernel
theorem dX0_gates_22 : decode cX0_gates 22 = .ok (.iinc 2 1, 3) := by decide +kernel
theorem dX0_gates_25 : decode cX0_gates 25 = .ok (.iinc 3 1, 3) := by decide +kernel
theorem dX0_gates_28 : decode cX0_gates 28 = .ok (.goto (-19), 3) := by decide +kernel
theorem dX0_gates_31 : decode cX0_gates 31 = .ok (.iload_n 2, 1) := by decide +kernel
theorem dX0_gates_32 : decode cX0_gates 32 = .ok (.ireturn, 1) := by decide +kernel
theorem dX0_firstGate_0 : decode cX0_firstGate 0 = .ok (.aload_n 0, 1) := by decide +kernel
theorem dX0_firstGate_1 : decode cX0_firstGate 1 = .ok (.invokevirtual 80, 3) := by decide +kernel
theorem dX0_firstGate_4 : decode cX0_firstGate 4 = .ok (.istore_n 1, 1) := by decide +kernel
theorem dX0_firstGate_5 : decode cX0_firstGate 5 = .ok (.iconst 0, 1) := by decide +kernel
theorem dX0_firstGate_6 : decode cX0_firstGate 6 = .ok (.istore_n 2, 1) := by decide +kernel
theorem dX0_firstGate_7 : decode cX0_firstGate 7 = .ok (.iload_n 2, 1) := by decide +kernel
theorem dX0_firstGate_8 : decode cX0_firstGate 8 = .ok (.iload_n 1, 1) := by decide +kernel
theorem dX0_firstGate_9 : decode cX0_firstGate 9 = .ok (.if_icmp .ge 19, 3) := by decide +kernel
theorem dX0_firstGate_12 : decode cX0_firstGate 12 = .ok (.aload_n 0, 1) := by decide +kernel
theorem dX0_firstGate_13 : decode cX0_firstGate 13 = .ok (.iload_n 2, 1) := by decide +kernel
theorem dX0_firstGate_14 : decode cX0_firstGate 14 = .ok (.invokevirtual 84, 3) := by decide +kernel
theorem dX0_firstGate_17 : decode cX0_firstGate 17 = .ok (.ifCond .ne 5, 3) := by decide +kernel
theorem dX0_firstGate_20 : decode cX0_firstGate 20 = .ok (.iload_n 2, 1) := by decide +kernel
theorem dX0_firstGate_21 : decode cX0_firstGate 21 = .ok (.ireturn, 1) := by decide +kernel
theorem dX0_firstGate_22 : decode cX0_firstGate 22 = .ok (.iinc 2 1, 3) := by decide +kernel
theorem dX0_firstGate_25 : decode cX0_firstGate 25 = .ok (.goto (-18), 3) := by decide +kernel
theorem dX0_firstGate_28 : decode cX0_firstGate 28 = .ok (.iconst (-1), 1) := by decide +kernel
theorem dX0_firstGate_29 : decode cX0_firstGate 29 = .ok (.ireturn, 1) := by decide +kernel
theorem dX0_firstUnlike_0 : decode cX0_firstUnlike 0 = .ok (.aload_n 0, 1) := by decide +kernel
theorem dX0_firstUnlike_1 : decode cX0_firstUnlike 1 = .ok (.invokevirtual 80, 3) := by decide +kernel
theorem dX0_firstUnlike_4 : decode cX0_firstUnlike 4 = .ok (.istore_n 2, 1) := by decide +kernel
theorem dX0_firstUnlike_5 : decode cX0_firstUnlike 5 = .ok (.iconst 0, 1) := by decide +kernel
theorem dX0_firstUnlike_6 : decode cX0_firstUnlike 6 = .ok (.istore_n 3, 1) := by decide +kernel
theorem dX0_firstUnlike_7 : decode cX0_firstUnlike 7 = .ok (.iload_n 3, 1) := by decide +kernel
theorem dX0_firstUnlike_8 : decode cX0_firstUnlike 8 = .ok (.aload_n 1, 1) := by decide +kernel
theorem dX0_firstUnlike_9 : decode cX0_firstUnlike 9 = .ok (.getfield 87, 3) := by decide +kernel
theorem dX0_firstUnlike_12 : decode cX0_firstUnlike 12 = .ok (.if_icmp .ge 36, 3) := by decide +kernel
theorem dX0_firstUnlike_15 : decode cX0_firstUnlike 15 = .ok (.iload_n 3, 1) := by decide +kernel
theorem dX0_firstUnlike_16 : decode cX0_firstUnlike 16 = .ok (.bipush 40, 2) := by decide +kernel
theorem dX0_firstUnlike_18 : decode cX0_firstUnlike 18 = .ok (.if_icmp .ge 30, 3) := by decide +kernel
theorem dX0_firstUnlike_21 : decode cX0_firstUnlike 21 = .ok (.iload_n 3, 1) := by decide +kernel
theorem dX0_firstUnlike_22 : decode cX0_firstUnlike 22 = .ok (.iload_n 2, 1) := by decide +kernel
theorem dX0_firstUnlike_23 : decode cX0_firstUnlike 23 = .ok (.if_icmp .ge 17, 3) := by decide +kernel
theorem dX0_firstUnlike_26 : decode cX0_firstUnlike 26 = .ok (.aload_n 0, 1) := by decide +kernel
theorem dX0_firstUnlike_27 : decode cX0_firstUnlike 27 = .ok (.iload_n 3, 1) := by decide +kernel
theorem dX0_firstUnlike_28 : decode cX0_firstUnlike 28 = .ok (.invokevirtual 84, 3) := by decide +kernel
theorem dX0_firstUnlike_31 : decode cX0_firstUnlike 31 = .ok (.aload_n 1, 1) := by decide +kernel
theorem dX0_firstUnlike_32 : decode cX0_firstUnlike 32 = .ok (.getfield 92, 3) := by decide +kernel
theorem dX0_firstUnlike_35 : decode cX0_firstUnlike 35 = .ok (.iload_n 3, 1) := by decide +kernel
theorem dX0_firstUnlike_36 : decode cX0_firstUnlike 36 = .ok (.iaload, 1) := by decide +kernel
theorem dX0_firstUnlike_37 : decode cX0_firstUnlike 37 = .ok (.if_icmp .eq 5, 3) := by decide +kernel
theorem dX0_firstUnlike_40 : decode cX0_firstUnlike 40 = .ok (.iload_n 3, 1) := by decide +kernel
theorem dX0_firstUnlike_41 : decode cX0_firstUnlike 41 = .ok (.ireturn, 1) := by decide +kernel
theorem dX0_firstUnlike_42 : decode cX0_firstUnlike 42 = .ok (.iinc 3 1, 3) := by decide +kernel
theorem dX0_firstUnlike_45 : decode cX0_firstUnlike 45 = .ok (.goto (-38), 3) := by decide +kernel
theorem dX0_firstUnlike_48 : decode cX0_firstUnlike 48 = .ok (.iconst (-1), 1) := by decide +kernel
theorem dX0_firstUnlike_49 : decode cX0_firstUnlike 49 = .ok (.ireturn, 1) := by decide +kernel
theorem dX0_gripOf_0 : decode cX0_gripOf 0 = .ok (.aload_n 0, 1) := by decide +kernel
theorem dX0_gripOf_1 : decode cX0_gripOf 1 = .ok (.iload_n 1, 1) := by decide +kernel
theorem dX0_gripOf_2 : decode cX0_gripOf 2 = .ok (.invokevirtual 54, 3) := by decide +kernel
theorem dX0_gripOf_5 : decode cX0_gripOf 5 = .ok (.ifCond .eq 11, 3) := by decide +kernel
theorem dX0_gripOf_8 : decode cX0_gripOf 8 = .ok (.aload_n 0, 1) := by decide +kernel
theorem dX0_gripOf_9 : decode cX0_gripOf 9 = .ok (.iload_n 2, 1) := by decide +kernel
theorem dX0_gripOf_10 : decode cX0_gripOf 10 = .ok (.invokevirtual 54, 3) := by decide +kernel
theorem dX0_gripOf_13 : decode cX0_gripOf 13 = .ok (.ifCond .ne 5, 3) := by decide +kernel
theorem dX0_gripOf_16 : decode cX0_gripOf 16 = .ok (.iconst 0, 1) := by decide +kernel
theorem dX0_gripOf_17 : decode cX0_gripOf 17 = .ok (.ireturn, 1) := by decide +kernel
theorem dX0_gripOf_18 : decode cX0_gripOf 18 = .ok (.aload_n 0, 1) := by decide +kernel
theorem dX0_gripOf_19 : decode cX0_gripOf 19 = .ok (.getfield 24, 3) := by decide +kernel
theorem dX0_gripOf_22 : decode cX0_gripOf 22 = .ok (.iconst 0, 1) := by decide +kernel
theorem dX0_gripOf_23 : decode cX0_gripOf 23 = .ok (.aload_n 0, 1) := by decide +kernel
theorem dX0_gripOf_24 : decode cX0_gripOf 24 = .ok (.iload_n 1, 1) := by decide +kernel
theorem dX0_gripOf_25 : decode cX0_gripOf 25 = .ok (.iload_n 2, 1) := by decide +kernel
theorem dX0_gripOf_26 : decode cX0_gripOf 26 = .ok (.invokevirtual 95, 3) := by decide +kernel
theorem dX0_gripOf_29 : decode cX0_gripOf 29 = .ok (.invokestatic 101, 3) := by decide +kernel
theorem dX0_gripOf_32 : decode cX0_gripOf 32 = .ok (.istore_n 3, 1) := by decide +kernel
theorem dX0_gripOf_33 : decode cX0_gripOf 33 = .ok (.iload_n 3, 1) := by decide +kernel
theorem dX0_gripOf_34 : decode cX0_gripOf 34 = .ok (.aload_n 0, 1) := by decide +kernel
theorem dX0_gripOf_35 : decode cX0_gripOf 35 = .ok (.getfield 15, 3) := by decide +kernel
theorem dX0_gripOf_38 : decode cX0_gripOf 38 = .ok (.iload_n 1, 1) := by decide +kernel
theorem dX0_gripOf_39 : decode cX0_gripOf 39 = .ok (.iaload, 1) := by decide +kernel
theorem dX0_gripOf_40 : decode cX0_gripOf 40 = .ok (.isub, 1) := by decide +kernel
theorem dX0_gripOf_41 : decode cX0_gripOf 41 = .ok (.istore 4, 2) := by decide +kernel
theorem dX0_gripOf_43 : decode cX0_gripOf 43 = .ok (.aload_n 0, 1) := by decide +kernel
theorem dX0_gripOf_44 : decode cX0_gripOf 44 = .ok (.getfield 9, 3) := by decide +kernel
theorem dX0_gripOf_47 : decode cX0_gripOf 47 = .ok (.iload_n 1, 1) := by decide +kernel
theorem dX0_gripOf_48 : decode cX0_gripOf 48 = .ok (.iaload, 1) := by decide +kernel
theorem dX0_gripOf_49 : decode cX0_gripOf 49 = .ok (.tableswitch 104 1 5 #[35, 45, 51, 81, 97], 35) := by decide +kernel
theorem dX0_gripOf_84 : decode cX0_gripOf 84 = .ok (.aload_n 0, 1) := by decide +kernel
theorem dX0_gripOf_85 : decode cX0_gripOf 85 = .ok (.iload_n 3, 1) := by decide +kernel
theorem dX0_gripOf_86 : decode cX0_gripOf 86 = .ok (.iload_n 2, 1) := by decide +kernel
theorem dX0_gripOf_87 : decode cX0_gripOf 87 = .ok (.invokevirtual 104, 3) := by decide +kernel
theorem dX0_gripOf_90 : decode cX0_gripOf 90 = .ok (.invokestatic 101, 3) := by decide +kernel
theorem dX0_gripOf_93 : decode cX0_gripOf 93 = .ok (.ireturn, 1) := by decide +kernel
theorem dX0_gripOf_94 : decode cX0_gripOf 94 = .ok (.iload 4, 2) := by decide +kernel
theorem dX0_gripOf_96 : decode cX0_gripOf 96 = .ok (.invokestatic 101, 3) := by decide +kernel
theorem dX0_gripOf_99 : decode cX0_gripOf 99 = .ok (.ireturn, 1) := by decide +kernel
theorem dX0_gripOf_100 : decode cX0_gripOf 100 = .ok (.aload_n 0, 1) := by decide +kernel
theorem dX0_gripOf_101 : decode cX0_gripOf 101 = .ok (.getfield 15, 3) := by decide +kernel
theorem dX0_gripOf_104 : decode cX0_gripOf 104 = .ok (.iload_n 1, 1) := by decide +kernel
theorem dX0_gripOf_105 : decode cX0_gripOf 105 = .ok (.iaload, 1) := by decide +kernel
theorem dX0_gripOf_106 : decode cX0_gripOf 106 = .ok (.aload_n 0, 1) := by decide +kernel
theorem dX0_gripOf_107 : decode cX0_gripOf 107 = .ok (.getfield 15, 3) := by decide +kernel
theorem dX0_gripOf_110 : decode cX0_gripOf 110 = .ok (.iload_n 2, 1) := by decide +kernel
theorem dX0_gripOf_111 : decode cX0_gripOf 111 = .ok (.iaload, 1) := by decide +kernel
theorem dX0_gripOf_112 : decode cX0_gripOf 112 = .ok (.if_icmp .ne 8, 3) := by decide +kernel
theorem dX0_gripOf_115 : decode cX0_gripOf 115 = .ok (.bipush 99, 2) := by decide +kernel
theorem dX0_gripOf_117 : decode cX0_gripOf 117 = .ok (.goto 12, 3) := by decide +kernel
theorem dX0_gripOf_120 : decode cX0_gripOf 120 = .ok (.aload_n 0, 1) := by decide +kernel
theorem dX0_gripOf_121 : decode cX0_gripOf 121 = .ok (.iload_n 3, 1) := by decide +kernel
theorem dX0_gripOf_122 : decode cX0_gripOf 122 = .ok (.iload_n 2, 1) := by decide +kernel
theorem dX0_gripOf_123 : decode cX0_gripOf 123 = .ok (.invokevirtual 104, 3) := by decide +kernel
theorem dX0_gripOf_126 : decode cX0_gripOf 126 = .ok (.invokestatic 101, 3) := by decide +kernel
theorem dX0_gripOf_129 : decode cX0_gripOf 129 = .ok (.ireturn, 1) := by decide +kernel
theorem dX0_gripOf_130 : decode cX0_gripOf 130 = .ok (.iload 4, 2) := by decide +kernel
theorem dX0_gripOf_132 : decode cX0_gripOf 132 = .ok (.aload_n 0, 1) := by decide +kernel
theorem dX0_gripOf_133 : decode cX0_gripOf 133 = .ok (.getfield 41, 3) := by decide +kernel
theorem dX0_gripOf_136 : decode cX0_gripOf 136 = .ok (.bipush 20, 2) := by decide +kernel
theorem dX0_gripOf_138 : decode cX0_gripOf 138 = .ok (.invokestatic 77, 3) := by decide +kernel
theorem dX0_gripOf_141 : decode cX0_gripOf 141 = .ok (.iadd, 1) := by decide +kernel
theorem dX0_gripOf_142 : decode cX0_gripOf 142 = .ok (.invokestatic 101, 3) := by decide +kernel
theorem dX0_gripOf_145 : decode cX0_gripOf 145 = .ok (.ireturn, 1) := by decide +kernel
theorem dX0_gripOf_146 : decode cX0_gripOf 146 = .ok (.aload_n 0, 1) := by decide +kernel
theorem dX0_gripOf_147 : decode cX0_gripOf 147 = .ok (.getfield 18, 3) := by decide +kernel
theorem dX0_gripOf_150 : decode cX0_gripOf 150 = .ok (.iload_n 1, 1) := by decide +kernel
theorem dX0_gripOf_151 : decode cX0_gripOf 151 = .ok (.iaload, 1) := by decide +kernel
theorem dX0_gripOf_152 : decode cX0_gripOf 152 = .ok (.ireturn, 1) := by decide +kernel
theorem dX0_gripOf_153 : decode cX0_gripOf 153 = .ok (.iload_n 3, 1) := by decide +kernel
theorem dX0_gripOf_154 : decode cX0_gripOf 154 = .ok (.ireturn, 1) := by decide +kernel
theorem dX0_asBrother_0 : decode cX0_asBrother 0 = .ok (.aload_n 0, 1) := by decide +kernel
theorem dX0_asBrother_1 : decode cX0_asBrother 1 = .ok (.getfield 9, 3) := by decide +kernel
theorem dX0_asBrother_4 : decode cX0_asBrother 4 = .ok (.iload_n 2, 1) := by decide +kernel
theorem dX0_asBrother_5 : decode cX0_asBrother 5 = .ok (.iaload, 1) := by decide +kernel
theorem dX0_asBrother_6 : decode cX0_asBrother 6 = .ok (.iconst 1, 1) := by decide +kernel
theorem dX0_asBrother_7 : decode cX0_asBrother 7 = .ok (.invokestatic 107, 3) := by decide +kernel
theorem dX0_asBrother_10 : decode cX0_asBrother 10 = .ok (.ifCond .eq 9, 3) := by decide +kernel
theorem dX0_asBrother_13 : decode cX0_asBrother 13 = .ok (.iconst 2, 1) := by decide +kernel
theorem dX0_asBrother_14 : decode cX0_asBrother 14 = .ok (.iload_n 1, 1) := by decide +kernel
theorem dX0_asBrother_15 : decode cX0_asBrother 15 = .ok (.imul, 1) := by decide +kernel
theorem dX0_asBrother_16 : decode cX0_asBrother 16 = .ok (.goto 4, 3) := by decide +kernel
theorem dX0_asBrother_19 : decode cX0_asBrother 19 = .ok (.iload_n 1, 1) := by decide +kernel
theorem dX0_asBrother_20 : decode cX0_asBrother 20 = .ok (.ireturn, 1) := by decide +kernel
theorem dX0_handedOn_0 : decode cX0_handedOn 0 = .ok (.aload_n 0, 1) := by decide +kernel
theorem dX0_handedOn_1 : decode cX0_handedOn 1 = .ok (.iload_n 1, 1) := by decide +kernel
theorem dX0_handedOn_2 : decode cX0_handedOn 2 = .ok (.invokevirtual 54, 3) := by decide +kernel
theorem dX0_handedOn_5 : decode cX0_handedOn 5 = .ok (.ifCond .ne 5, 3) := by decide +kernel
theorem dX0_handedOn_8 : decode cX0_handedOn 8 = .ok (.iconst 0, 1) := by decide +kernel
theorem dX0_handedOn_9 : decode cX0_handedOn 9 = .ok (.ireturn, 1) := by decide +kernel
theorem dX0_handedOn_10 : decode cX0_handedOn 10 = .ok (.iload_n 2, 1) := by decide +kernel
theorem dX0_handedOn_11 : decode cX0_handedOn 11 = .ok (.aload_n 0, 1) := by decide +kernel
theorem dX0_handedOn_12 : decode cX0_handedOn 12 = .ok (.getfield 24, 3) := by decide +kernel
theorem dX0_handedOn_15 : decode cX0_handedOn 15 = .ok (.iconst 1, 1) := by decide +kernel
theorem dX0_handedOn_16 : decode cX0_handedOn 16 = .ok (.aload_n 0, 1) := by decide +kernel
theorem dX0_handedOn_17 : decode cX0_handedOn 17 = .ok (.iload_n 1, 1) := by decide +kernel
theorem dX0_handedOn_18 : decode cX0_handedOn 18 = .ok (.iconst (-1), 1) := by decide +kernel
theorem dX0_handedOn_19 : decode cX0_handedOn 19 = .ok (.invokevirtual 95, 3) := by decide +kernel
theorem dX0_handedOn_22 : decode cX0_handedOn 22 = .ok (.invokestatic 101, 3) := by decide +kernel
theorem dX0_handedOn_25 : decode cX0_handedOn 25 = .ok (.isub, 1) := by decide +kernel
theorem dX0_handedOn_26 : decode cX0_handedOn 26 = .ok (.istore_n 3, 1) := by decide +kernel
theorem dX0_handedOn_27 : decode cX0_handedOn 27 = .ok (.aload_n 0, 1) := by decide +kernel
theorem dX0_handedOn_28 : decode cX0_handedOn 28 = .ok (.getfield 9, 3) := by decide +kernel
theorem dX0_handedOn_31 : decode cX0_handedOn 31 = .ok (.iload_n 1, 1) := by decide +kernel
theorem dX0_handedOn_32 : decode cX0_handedOn 32 = .ok (.iaload, 1) := by decide +kernel
theorem dX0_handedOn_33 : decode cX0_handedOn 33 = .ok (.tableswitch 89 1 5 #[35, 40, 47, 65, 81], 35) := by decide +kernel
theorem dX0_handedOn_68 : decode cX0_handedOn 68 = .ok (.iload_n 2, 1) := by decide +kernel
theorem dX0_handedOn_69 : decode cX0_handedOn 69 = .ok (.invokestatic 101, 3) := by decide +kernel
theorem dX0_handedOn_72 : decode cX0_handedOn 72 = .ok (.ireturn, 1) := by decide +kernel
theorem dX0_handedOn_73 : decode cX0_handedOn 73 = .ok (.iload_n 3, 1) := by decide +kernel
theorem dX0_handedOn_74 : decode cX0_handedOn 74 = .ok (.iconst 2, 1) := by decide +kernel
theorem dX0_handedOn_75 : decode cX0_handedOn 75 = .ok (.idiv, 1) := by decide +kernel
theorem dX0_handedOn_76 : decode cX0_handedOn 76 = .ok (.invokestatic 101, 3) := by decide +kernel
theorem dX0_handedOn_79 : decode cX0_handedOn 79 = .ok (.ireturn, 1) := by decide +kernel
theorem dX0_handedOn_80 : decode cX0_handedOn 80 = .ok (.aload_n 0, 1) := by decide +kernel
theorem dX0_handedOn_81 : decode cX0_handedOn 81 = .ok (.getfield 41, 3) := by decide +kernel
theorem dX0_handedOn_84 : decode cX0_handedOn 84 = .ok (.iconst 2, 1) := by decide +kernel
theorem dX0_handedOn_85 : decode cX0_handedOn 85 = .ok (.irem, 1) := by decide +kernel
theorem dX0_handedOn_86 : decode cX0_handedOn 86 = .ok (.ifCond .ne 7, 3) := by decide +kernel
theorem dX0_handedOn_89 : decode cX0_handedOn 89 = .ok (.iload_n 2, 1) := by decide +kernel
theorem dX0_handedOn_90 : decode cX0_handedOn 90 = .ok (.goto 4, 3) := by decide +kernel
theorem dX0_handedOn_93 : decode cX0_handedOn 93 = .ok (.iload_n 3, 1) := by decide +kernel
theorem dX0_handedOn_94 : decode cX0_handedOn 94 = .ok (.invokestatic 101, 3) := by decide +kernel
theorem dX0_handedOn_97 : decode cX0_handedOn 97 = .ok (.ireturn, 1) := by decide +kernel
theorem dX0_handedOn_98 : decode cX0_handedOn 98 = .ok (.iload_n 2, 1) := by decide +kernel
theorem dX0_handedOn_99 : decode cX0_handedOn 99 = .ok (.iconst 5, 1) := by decide +kernel
theorem dX0_handedOn_100 : decode cX0_handedOn 100 = .ok (.if_icmp .ge 7, 3) := by decide +kernel
theorem dX0_handedOn_103 : decode cX0_handedOn 103 = .ok (.iload_n 2, 1) := by decide +kernel
theorem dX0_handedOn_104 : decode cX0_handedOn 104 = .ok (.goto 6, 3) := by decide +kernel
theorem dX0_handedOn_107 : decode cX0_handedOn 107 = .ok (.iload_n 3, 1) := by decide +kernel
theorem dX0_handedOn_108 : decode cX0_handedOn 108 = .ok (.iconst 2, 1) := by decide +kernel
theorem dX0_handedOn_109 : decode cX0_handedOn 109 = .ok (.idiv, 1) := by decide +kernel
theorem dX0_handedOn_110 : decode cX0_handedOn 110 = .ok (.invokestatic 101, 3) := by decide +kernel
theorem dX0_handedOn_113 : decode cX0_handedOn 113 = .ok (.ireturn, 1) := by decide +kernel
theorem dX0_handedOn_114 : decode cX0_handedOn 114 = .ok (.iload_n 3, 1) := by decide +kernel
theorem dX0_handedOn_115 : decode cX0_handedOn 115 = .ok (.bipush 10, 2) := by decide +kernel
theorem dX0_handedOn_117 : decode cX0_handedOn 117 = .ok (.iadd, 1) := by decide +kernel
theorem dX0_handedOn_118 : decode cX0_handedOn 118 = .ok (.invokestatic 101, 3) := by decide +kernel
theorem dX0_handedOn_121 : decode cX0_handedOn 121 = .ok (.ireturn, 1) := by decide +kernel
theorem dX0_handedOn_122 : decode cX0_handedOn 122 = .ok (.iload_n 3, 1) := by decide +kernel
theorem dX0_handedOn_123 : decode cX0_handedOn 123 = .ok (.invokestatic 101, 3) := by decide +kernel
theorem dX0_handedOn_126 : decode cX0_handedOn 126 = .ok (.ireturn, 1) := by decide +kernel
theorem dX0_spentBy_0 : decode cX0_spentBy 0 = .ok (.aload_n 0, 1) := by decide +kernel
theorem dX0_spentBy_1 : decode cX0_spentBy 1 = .ok (.iload_n 1, 1) := by decide +kernel
theorem dX0_spentBy_2 : decode cX0_spentBy 2 = .ok (.invokevirtual 54, 3) := by decide +kernel
theorem dX0_spentBy_5 : decode cX0_spentBy 5 = .ok (.ifCond .ne 5, 3) := by decide +kernel
theorem dX0_spentBy_8 : decode cX0_spentBy 8 = .ok (.iconst 0, 1) := by decide +kernel
theorem dX0_spentBy_9 : decode cX0_spentBy 9 = .ok (.ireturn, 1) := by decide +kernel
theorem dX0_spentBy_10 : decode cX0_spentBy 10 = .ok (.aload_n 0, 1) := by decide +kernel
theorem dX0_spentBy_11 : decode cX0_spentBy 11 = .ok (.getfield 24, 3) := by decide +kernel
theorem dX0_spentBy_14 : decode cX0_spentBy 14 = .ok (.iconst 2, 1) := by decide +kernel
theorem dX0_spentBy_15 : decode cX0_spentBy 15 = .ok (.aload_n 0, 1) := by decide +kernel
theorem dX0_spentBy_16 : decode cX0_spentBy 16 = .ok (.iload_n 1, 1) := by decide +kernel
theorem dX0_spentBy_17 : decode cX0_spentBy 17 = .ok (.iconst (-1), 1) := by decide +kernel
theorem dX0_spentBy_18 : decode cX0_spentBy 18 = .ok (.invokevirtual 95, 3) := by decide +kernel
theorem dX0_spentBy_21 : decode cX0_spentBy 21 = .ok (.invokestatic 101, 3) := by decide +kernel
theorem dX0_spentBy_24 : decode cX0_spentBy 24 = .ok (.istore_n 2, 1) := by decide +kernel
theorem dX0_spentBy_25 : decode cX0_spentBy 25 = .ok (.aload_n 0, 1) := by decide +kernel
theorem dX0_spentBy_26 : decode cX0_spentBy 26 = .ok (.getfield 9, 3) := by decide +kernel
theorem dX0_spentBy_29 : decode cX0_spentBy 29 = .ok (.iload_n 1, 1) := by decide +kernel
theorem dX0_spentBy_30 : decode cX0_spentBy 30 = .ok (.iaload, 1) := by decide +kernel
theorem dX0_spentBy_31 : decode cX0_spentBy 31 = .ok (.tableswitch 66 1 5 #[33, 37, 33, 44, 64], 33) := by decide +kernel
theorem dX0_spentBy_64 : decode cX0_spentBy 64 = .ok (.iload_n 2, 1) := by decide +kernel
theorem dX0_spentBy_65 : decode cX0_spentBy 65 = .ok (.iconst 2, 1) := by decide +kernel
theorem dX0_spentBy_66 : decode cX0_spentBy 66 = .ok (.idiv, 1) := by decide +kernel
theorem dX0_spentBy_67 : decode cX0_spentBy 67 = .ok (.ireturn, 1) := by decide +kernel
theorem dX0_spentBy_68 : decode cX0_spentBy 68 = .ok (.iload_n 2, 1) := by decide +kernel
theorem dX0_spentBy_69 : decode cX0_spentBy 69 = .ok (.iconst 1, 1) := by decide +kernel
theorem dX0_spentBy_70 : decode cX0_spentBy 70 = .ok (.iadd, 1) := by decide +kernel
theorem dX0_spentBy_71 : decode cX0_spentBy 71 = .ok (.invokestatic 101, 3) := by decide +kernel
theorem dX0_spentBy_74 : decode cX0_spentBy 74 = .ok (.ireturn, 1) := by decide +kernel
theorem dX0_spentBy_75 : decode cX0_spentBy 75 = .ok (.aload_n 0, 1) := by decide +kernel
theorem dX0_spentBy_76 : decode cX0_spentBy 76 = .ok (.getfield 44, 3) := by decide +kernel
theorem dX0_spentBy_79 : decode cX0_spentBy 79 = .ok (.bipush 20, 2) := by decide +kernel
theorem dX0_spentBy_81 : decode cX0_spentBy 81 = .ok (.if_icmp .le 12, 3) := by decide +kernel
theorem dX0_spentBy_84 : decode cX0_spentBy 84 = .ok (.iload_n 2, 1) := by decide +kernel
theorem dX0_spentBy_85 : decode cX0_spentBy 85 = .ok (.iconst 1, 1) := by decide +kernel
theorem dX0_spentBy_86 : decode cX0_spentBy 86 = .ok (.iadd, 1) := by decide +kernel
theorem dX0_spentBy_87 : decode cX0_spentBy 87 = .ok (.invokestatic 101, 3) := by decide +kernel
theorem dX0_spentBy_90 : decode cX0_spentBy 90 = .ok (.goto 4, 3) := by decide +kernel
theorem dX0_spentBy_93 : decode cX0_spentBy 93 = .ok (.iconst 0, 1) := by decide +kernel
theorem dX0_spentBy_94 : decode cX0_spentBy 94 = .ok (.ireturn, 1) := by decide +kernel
theorem dX0_spentBy_95 : decode cX0_spentBy 95 = .ok (.iconst 0, 1) := by decide +kernel
theorem dX0_spentBy_96 : decode cX0_spentBy 96 = .ok (.ireturn, 1) := by decide +kernel
theorem dX0_spentBy_97 : decode cX0_spentBy 97 = .ok (.iload_n 2, 1) := by decide +kernel
theorem dX0_spentBy_98 : decode cX0_spentBy 98 = .ok (.ireturn, 1) := by decide +kernel
theorem dX0_named_0 : decode cX0_named 0 = .ok (.iload_n 1, 1) := by decide +kernel
theorem dX0_named_1 : decode cX0_named 1 = .ok (.tableswitch 108 0 4 #[35, 56, 77, 98, 103], 35) := by decide +kernel
theorem dX0_named_36 : decode cX0_named 36 = .ok (.iload_n 2, 1) := by decide +kernel
theorem dX0_named_37 : decode cX0_named 37 = .ok (.ifCond .lt 18, 3) := by decide +kernel
theorem dX0_named_40 : decode cX0_named 40 = .ok (.iload_n 2, 1) := by decide +kernel
theorem dX0_named_41 : decode cX0_named 41 = .ok (.bipush 6, 2) := by decide +kernel
theorem dX0_named_43 : decode cX0_named 43 = .ok (.if_icmp .ge 12, 3) := by decide +kernel
theorem dX0_named_46 : decode cX0_named 46 = .ok (.aload_n 0, 1) := by decide +kernel
theorem dX0_named_47 : decode cX0_named 47 = .ok (.getfield 18, 3) := by decide +kernel
theorem dX0_named_50 : decode cX0_named 50 = .ok (.iload_n 2, 1) := by decide +kernel
theorem dX0_named_51 : decode cX0_named 51 = .ok (.iaload, 1) := by decide +kernel
theorem dX0_named_52 : decode cX0_named 52 = .ok (.goto 4, 3) := by decide +kernel
theorem dX0_named_55 : decode cX0_named 55 = .ok (.iconst 0, 1) := by decide +kernel
theorem dX0_named_56 : decode cX0_named 56 = .ok (.ireturn, 1) := by decide +kernel
theorem dX0_named_57 : decode cX0_named 57 = .ok (.iload_n 3, 1) := by decide +kernel
theorem dX0_named_58 : decode cX0_named 58 = .ok (.ifCond .lt 18, 3) := by decide +kernel
theorem dX0_named_61 : decode cX0_named 61 = .ok (.iload_n 3, 1) := by decide +kernel
theorem dX0_named_62 : decode cX0_named 62 = .ok (.bipush 6, 2) := by decide +kernel
theorem dX0_named_64 : decode cX0_named 64 = .ok (.if_icmp .ge 12, 3) := by decide +kernel
theorem dX0_named_67 : decode cX0_named 67 = .ok (.aload_n 0, 1) := by decide +kernel
theorem dX0_named_68 : decode cX0_named 68 = .ok (.getfield 18, 3) := by decide +kernel
theorem dX0_named_71 : decode cX0_named 71 = .ok (.iload_n 3, 1) := by decide +kernel
theorem dX0_named_72 : decode cX0_named 72 = .ok (.iaload, 1) := by decide +kernel
theorem dX0_named_73 : decode cX0_named 73 = .ok (.goto 4, 3) := by decide +kernel
theorem dX0_named_76 : decode cX0_named 76 = .ok (.iconst 0, 1) := by decide +kernel
theorem dX0_named_77 : decode cX0_named 77 = .ok (.ireturn, 1) := by decide +kernel
theorem dX0_named_78 : decode cX0_named 78 = .ok (.iload_n 2, 1) := by decide +kernel
theorem dX0_named_79 : decode cX0_named 79 = .ok (.ifCond .lt 18, 3) := by decide +kernel
theorem dX0_named_82 : decode cX0_named 82 = .ok (.iload_n 2, 1) := by decide +kernel
theorem dX0_named_83 : decode cX0_named 83 = .ok (.bipush 6, 2) := by decide +kernel
theorem dX0_named_85 : decode cX0_named 85 = .ok (.if_icmp .ge 12, 3) := by decide +kernel
theorem dX0_named_88 : decode cX0_named 88 = .ok (.aload_n 0, 1) := by decide +kernel
theorem dX0_named_89 : decode cX0_named 89 = .ok (.getfield 15, 3) := by decide +kernel
theorem dX0_named_92 : decode cX0_named 92 = .ok (.iload_n 2, 1) := by decide +kernel
theorem dX0_named_93 : decode cX0_named 93 = .ok (.iaload, 1) := by decide +kernel
theorem dX0_named_94 : decode cX0_named 94 = .ok (.goto 4, 3) := by decide +kernel
theorem dX0_named_97 : decode cX0_named 97 = .ok (.iconst 0, 1) := by decide +kernel
theorem dX0_named_98 : decode cX0_named 98 = .ok (.ireturn, 1) := by decide +kernel
theorem dX0_named_99 : decode cX0_named 99 = .ok (.aload_n 0, 1) := by decide +kernel
theorem dX0_named_100 : decode cX0_named 100 = .ok (.getfield 41, 3) := by decide +kernel
theorem dX0_named_103 : decode cX0_named 103 = .ok (.ireturn, 1) := by decide +kernel
theorem dX0_named_104 : decode cX0_named 104 = .ok (.aload_n 0, 1) := by decide +kernel
theorem dX0_named_105 : decode cX0_named 105 = .ok (.getfield 44, 3) := by decide +kernel
theorem dX0_named_108 : decode cX0_named 108 = .ok (.ireturn, 1) := by decide +kernel
theorem dX0_named_109 : decode cX0_named 109 = .ok (.aload_n 0, 1) := by decide +kernel
theorem dX0_named_110 : decode cX0_named 110 = .ok (.getfield 38, 3) := by decide +kernel
theorem dX0_named_113 : decode cX0_named 113 = .ok (.ireturn, 1) := by decide +kernel
end
section
theorem dX1_init_0 : decode cX1_init 0 = .ok (.aload_n 0, 1) := by decide +kernel
theorem dX1_init_1 : decode cX1_init 1 = .ok (.invokespecial 3, 3) := by decide +kernel
theorem dX1_init_4 : decode cX1_init 4 = .ok (.aload_n 0, 1) := by decide +kernel
theorem dX1_init_5 : decode cX1_init 5 = .ok (.bipush 36, 2) := by decide +kernel
theorem dX1_init_7 : decode cX1_init 7 = .ok (.newarray .int, 2) := by decide +kernel
theorem dX1_init_9 : decode cX1_init 9 = .ok (.putfield 9, 3) := by decide +kernel
theorem dX1_init_12 : decode cX1_init 12 = .ok (.aload_n 0, 1) := by decide +kernel
theorem dX1_init_13 : decode cX1_init 13 = .ok (.bipush 6, 2) := by decide +kernel
theorem dX1_init_15 : decode cX1_init 15 = .ok (.newarray .int, 2) := by decide +kernel
theorem dX1_init_17 : decode cX1_init 17 = .ok (.putfield 15, 3) := by decide +kernel
theorem dX1_init_20 : decode cX1_init 20 = .ok (.aload_n 0, 1) := by decide +kernel
theorem dX1_init_21 : decode cX1_init 21 = .ok (.bipush 6, 2) := by decide +kernel
theorem dX1_init_23 : decode cX1_init 23 = .ok (.newarray .int, 2) := by decide +kernel
theorem dX1_init_25 : decode cX1_init 25 = .ok (.putfield 18, 3) := by decide +kernel
theorem dX1_init_28 : decode cX1_init 28 = .ok (.aload_n 0, 1) := by decide +kernel
theorem dX1_init_29 : decode cX1_init 29 = .ok (.bipush 6, 2) := by decide +kernel
theorem dX1_init_31 : decode cX1_init 31 = .ok (.newarray .int, 2) := by decide +kernel
theorem dX1_init_33 : decode cX1_init 33 = .ok (.putfield 21, 3) := by decide +kernel
theorem dX1_init_36 : decode cX1_init 36 = .ok (.return_, 1) := by decide +kernel
theorem dX1_look_0 : decode cX1_look 0 = .ok (.aload_n 0, 1) := by decide +kernel
theorem dX1_look_1 : decode cX1_look 1 = .ok (.aload_n 1, 1) := by decide +kernel
theorem dX1_look_2 : decode cX1_look 2 = .ok (.getfield 24, 3) := by decide +kernel
theorem dX1_look_5 : decode cX1_look 5 = .ok (.bipush 6, 2) := by decide +kernel
theorem dX1_look_7 : decode cX1_look 7 = .ok (.invokestatic 30, 3) := by decide +kernel
theorem dX1_look_10 : decode cX1_look 10 = .ok (.putfield 36, 3) := by decide +kernel
theorem dX1_look_13 : decode cX1_look 13 = .ok (.aload_n 1, 1) := by decide +kernel
theorem dX1_look_14 : decode cX1_look 14 = .ok (.getfield 37, 3) := by decide +kernel
theorem dX1_look_17 : decode cX1_look 17 = .ok (.iconst 0, 1) := by decide +kernel
theorem dX1_look_18 : decode cX1_look 18 = .ok (.aload_n 0, 1) := by decide +kernel
theorem dX1_look_19 : decode cX1_look 19 = .ok (.getfield 18, 3) := by decide +kernel
theorem dX1_look_22 : decode cX1_look 22 = .ok (.iconst 0, 1) := by decide +kernel
theorem dX1_look_23 : decode cX1_look 23 = .ok (.bipush 6, 2) := by decide +kernel
theorem dX1_look_25 : decode cX1_look 25 = .ok (.invokestatic 38, 3) := by decide +kernel
theorem dX1_look_28 : decode cX1_look 28 = .ok (.aload_n 1, 1) := by decide +kernel
theorem dX1_look_29 : decode cX1_look 29 = .ok (.getfield 37, 3) := by decide +kernel
theorem dX1_look_32 : decode cX1_look 32 = .ok (.iconst 0, 1) := by decide +kernel
theorem dX1_look_33 : decode cX1_look 33 = .ok (.aload_n 0, 1) := by decide +kernel
theorem dX1_look_34 : decode cX1_look 34 = .ok (.getfield 15, 3) := by decide +kernel
theorem dX1_look_37 : decode cX1_look 37 = .ok (.iconst 0, 1) := by decide +kernel
theorem dX1_look_38 : decode cX1_look 38 = .ok (.bipush 6, 2) := by decide +kernel
theorem dX1_look_40 : decode cX1_look 40 = .ok (.invokestatic 38, 3) := by decide +kernel
theorem dX1_look_43 : decode cX1_look 43 = .ok (.iconst 0, 1) := by decide +kernel
theorem dX1_look_44 : decode cX1_look 44 = .ok (.istore_n 2, 1) := by decide +kernel
theorem dX1_look_45 : decode cX1_look 45 = .ok (.iload_n 2, 1) := by decide +kernel
theorem dX1_look_46 : decode cX1_look 46 = .ok (.bipush 6, 2) := by decide +kernel
theorem dX1_look_48 : decode cX1_look 48 = .ok (.if_icmp .ge 65, 3) := by decide +kernel
theorem dX1_look_51 : decode cX1_look 51 = .ok (.iconst 0, 1) := by decide +kernel
theorem dX1_look_52 : decode cX1_look 52 = .ok (.istore_n 3, 1) := by decide +kernel
theorem dX1_look_53 : decode cX1_look 53 = .ok (.iload_n 3, 1) := by decide +kernel
theorem dX1_look_54 : decode cX1_look 54 = .ok (.iload_n 2, 1) := by decide +kernel
theorem dX1_look_55 : decode cX1_look 55 = .ok (.if_icmp .ge 52, 3) := by decide +kernel
theorem dX1_look_58 : decode cX1_look 58 = .ok (.aload_n 1, 1) := by decide +kernel
theorem dX1_look_59 : decode cX1_look 59 = .ok (.iload_n 2, 1) := by decide +kernel
theorem dX1_look_60 : decode cX1_look 60 = .ok (.iload_n 3, 1) := by decide +kernel
theorem dX1_look_61 : decode cX1_look 61 = .ok (.invokevirtual 44, 3) := by decide +kernel
theorem dX1_look_64 : decode cX1_look 64 = .ok (.aload_n 1, 1) := by decide +kernel
theorem dX1_look_65 : decode cX1_look 65 = .ok (.iload_n 3, 1) := by decide +kernel
theorem dX1_look_66 : decode cX1_look 66 = .ok (.iload_n 2, 1) := by decide +kernel
theorem dX1_look_67 : decode cX1_look 67 = .ok (.invokevirtual 44, 3) := by decide +kernel
theorem dX1_look_70 : decode cX1_look 70 = .ok (.invokestatic 30, 3) := by decide +kernel
theorem dX1_look_73 : decode cX1_look 73 = .ok (.istore 4, 2) := by decide +kernel
theorem dX1_look_75 : decode cX1_look 75 = .ok (.aload_n 0, 1) := by decide +kernel
theorem dX1_look_76 : decode cX1_look 76 = .ok (.getfield 9, 3) := by decide +kernel
theorem dX1_look_79 : decode cX1_look 79 = .ok (.iload_n 2, 1) := by decide +kernel
theorem dX1_look_80 : decode cX1_look 80 = .ok (.bipush 6, 2) := by decide +kernel
theorem dX1_look_82 : decode cX1_look 82 = .ok (.imul, 1) := by decide +kernel
theorem dX1_look_83 : decode cX1_look 83 = .ok (.iload_n 3, 1) := by decide +kernel
theorem dX1_look_84 : decode cX1_look 84 = .ok (.iadd, 1) := by decide +kernel
theorem dX1_look_85 : decode cX1_look 85 = .ok (.iload 4, 2) := by decide +kernel
theorem dX1_look_87 : decode cX1_look 87 = .ok (.iastore, 1) := by decide +kernel
theorem dX1_look_88 : decode cX1_look 88 = .ok (.aload_n 0, 1) := by decide +kernel
theorem dX1_look_89 : decode cX1_look 89 = .ok (.getfield 9, 3) := by decide +kernel
theorem dX1_look_92 : decode cX1_look 92 = .ok (.iload_n 3, 1) := by decide +kernel
theorem dX1_look_93 : decode cX1_look 93 = .ok (.bipush 6, 2) := by decide +kernel
theorem dX1_look_95 : decode cX1_look 95 = .ok (.imul, 1) := by decide +kernel
theorem dX1_look_96 : decode cX1_look 96 = .ok (.iload_n 2, 1) := by decide +kernel
theorem dX1_look_97 : decode cX1_look 97 = .ok (.iadd, 1) := by decide +kernel
theorem dX1_look_98 : decode cX1_look 98 = .ok (.iload 4, 2) := by decide +kernel
theorem dX1_look_100 : decode cX1_look 100 = .ok (.iastore, 1) := by decide +kernel
theorem dX1_look_101 : decode cX1_look 101 = .ok (.iinc 3 1, 3) := by decide +kernel
theorem dX1_look_104 : decode cX1_look 104 = .ok (.goto (-51), 3) := by decide +kernel
theorem dX1_look_107 : decode cX1_look 107 = .ok (.iinc 2 1, 3) := by decide +kernel
theorem dX1_look_110 : decode cX1_look 110 = .ok (.goto (-65), 3) := by decide +kernel
theorem dX1_look_113 : decode cX1_look 113 = .ok (.return_, 1) := by decide +kernel
theorem dX1_between_0 : decode cX1_between 0 = .ok (.iload_n 1, 1) := by decide +kernel
theorem dX1_between_1 : decode cX1_between 1 = .ok (.ifCond .lt 23, 3) := by decide +kernel
theorem dX1_between_4 : decode cX1_between 4 = .ok (.iload_n 1, 1) := by decide +kernel
theorem dX1_between_5 : decode cX1_between 5 = .ok (.bipush 6, 2) := by decide +kernel
theorem dX1_between_7 : decode cX1_between 7 = .ok (.if_icmp .ge 17, 3) := by decide +kernel
theorem dX1_between_10 : decode cX1_between 10 = .ok (.iload_n 2, 1) := by decide +kernel
theorem dX1_between_11 : decode cX1_between 11 = .ok (.ifCond .lt 13, 3) := by decide +kernel
theorem dX1_between_14 : decode cX1_between 14 = .ok (.iload_n 2, 1) := by decide +kernel
theorem dX1_between_15 : decode cX1_between 15 = .ok (.bipush 6, 2) := by decide +kernel
theorem dX1_between_17 : decode cX1_between 17 = .ok (.if_icmp .ge 7, 3) := by decide +kernel
theorem dX1_between_20 : decode cX1_between 20 = .ok (.iconst 1, 1) := by decide +kernel
theorem dX1_between_21 : decode cX1_between 21 = .ok (.goto 4, 3) := by decide +kernel
theorem dX1_between_24 : decode cX1_between 24 = .ok (.iconst 0, 1) := by decide +kernel
theorem dX1_between_25 : decode cX1_between 25 = .ok (.istore_n 3, 1) := by decide +kernel
theorem dX1_between_26 : decode cX1_between 26 = .ok (.iload_n 3, 1) := by decide +kernel
theorem dX1_between_27 : decode cX1_between 27 = .ok (.ifCond .eq 17, 3) := by decide +kernel
theorem dX1_between_30 : decode cX1_between 30 = .ok (.aload_n 0, 1) := by decide +kernel
theorem dX1_between_31 : decode cX1_between 31 = .ok (.getfield 9, 3) := by decide +kernel
theorem dX1_between_34 : decode cX1_between 34 = .ok (.iload_n 1, 1) := by decide +kernel
theorem dX1_between_35 : decode cX1_between 35 = .ok (.bipush 6, 2) := by decide +kernel
theorem dX1_between_37 : decode cX1_between 37 = .ok (.imul, 1) := by decide +kernel
theorem dX1_between_38 : decode cX1_between 38 = .ok (.iload_n 2, 1) := by decide +kernel
theorem dX1_between_39 : decode cX1_between 39 = .ok (.iadd, 1) := by decide +kernel
theorem dX1_between_40 : decode cX1_between 40 = .ok (.iaload, 1) := by decide +kernel
theorem dX1_between_41 : decode cX1_between 41 = .ok (.goto 4, 3) := by decide +kernel
theorem dX1_between_44 : decode cX1_between 44 = .ok (.iconst 0, 1) := by decide +kernel
theorem dX1_between_45 : decode cX1_between 45 = .ok (.ireturn, 1) := by decide +kernel
theorem dX1_weakestNow_0 : decode cX1_weakestNow 0 = .ok (.aload_n 0, 1) := by decide +kernel
theorem dX1_weakestNow_1 : decode cX1_weakestNow 1 = .ok (.getfield 36, 3) := by decide +kernel
theorem dX1_weakestNow_4 : decode cX1_weakestNow 4 = .ok (.iconst 2, 1) := by decide +kernel
theorem dX1_weakestNow_5 : decode cX1_weakestNow 5 = .ok (.if_icmp .ge 5, 3) := by decide +kernel
theorem dX1_weakestNow_8 : decode cX1_weakestNow 8 = .ok (.iconst (-1), 1) := by decide +kernel
theorem dX1_weakestNow_9 : decode cX1_weakestNow 9 = .ok (.ireturn, 1) := by decide +kernel
theorem dX1_weakestNow_10 : decode cX1_weakestNow 10 = .ok (.aload_n 0, 1) := by decide +kernel
theorem dX1_weakestNow_11 : decode cX1_weakestNow 11 = .ok (.aload_n 0, 1) := by decide +kernel
theorem dX1_weakestNow_12 : decode cX1_weakestNow 12 = .ok (.getfield 15, 3) := by decide +kernel
theorem dX1_weakestNow_15 : decode cX1_weakestNow 15 = .ok (.aload_n 0, 1) := by decide +kernel
theorem dX1_weakestNow_16 : decode cX1_weakestNow 16 = .ok (.getfield 36, 3) := by decide +kernel
theorem dX1_weakestNow_19 : decode cX1_weakestNow 19 = .ok (.iconst 1, 1) := by decide +kernel
theorem dX1_weakestNow_20 : decode cX1_weakestNow 20 = .ok (.isub, 1) := by decide +kernel
theorem dX1_weakestNow_21 : decode cX1_weakestNow 21 = .ok (.iaload, 1) := by decide +kernel
theorem dX1_weakestNow_22 : decode cX1_weakestNow 22 = .ok (.aload_n 0, 1) := by decide +kernel
theorem dX1_weakestNow_23 : decode cX1_weakestNow 23 = .ok (.getfield 15, 3) := by decide +kernel
theorem dX1_weakestNow_26 : decode cX1_weakestNow 26 = .ok (.iconst 0, 1) := by decide +kernel
theorem dX1_weakestNow_27 : decode cX1_weakestNow 27 = .ok (.iaload, 1) := by decide +kernel
theorem dX1_weakestNow_28 : decode cX1_weakestNow 28 = .ok (.invokevirtual 47, 3) := by decide +kernel
theorem dX1_weakestNow_31 : decode cX1_weakestNow 31 = .ok (.istore_n 1, 1) := by decide +kernel
theorem dX1_weakestNow_32 : decode cX1_weakestNow 32 = .ok (.iconst 1, 1) := by decide +kernel
theorem dX1_weakestNow_33 : decode cX1_weakestNow 33 = .ok (.istore_n 2, 1) := by decide +kernel
theorem dX1_weakestNow_34 : decode cX1_weakestNow 34 = .ok (.iload_n 2, 1) := by decide +kernel
theorem dX1_weakestNow_35 : decode cX1_weakestNow 35 = .ok (.aload_n 0, 1) := by decide +kernel
theorem dX1_weakestNow_36 : decode cX1_weakestNow 36 = .ok (.getfield 36, 3) := by decide +kernel
theorem dX1_weakestNow_39 : decode cX1_weakestNow 39 = .ok (.if_icmp .ge 32, 3) := by decide +kernel
theorem dX1_weakestNow_42 : decode cX1_weakestNow 42 = .ok (.iload_n 1, 1) := by decide +kernel
theorem dX1_weakestNow_43 : decode cX1_weakestNow 43 = .ok (.aload_n 0, 1) := by decide +kernel
theorem dX1_weakestNow_44 : decode cX1_weakestNow 44 = .ok (.aload_n 0, 1) := by decide +kernel
theorem dX1_weakestNow_45 : decode cX1_weakestNow 45 = .ok (.getfield 15, 3) := by decide +kernel
theorem dX1_weakestNow_48 : decode cX1_weakestNow 48 = .ok (.iload_n 2, 1) := by decide +kernel
theorem dX1_weakestNow_49 : decode cX1_weakestNow 49 = .ok (.iconst 1, 1) := by decide +kernel
theorem dX1_weakestNow_50 : decode cX1_weakestNow 50 = .ok (.isub, 1) := by decide +kernel
theorem dX1_weakestNow_51 : decode cX1_weakestNow 51 = .ok (.iaload, 1) := by decide +kernel
theorem dX1_weakestNow_52 : decode cX1_weakestNow 52 = .ok (.aload_n 0, 1) := by decide +kernel
theorem dX1_weakestNow_53 : decode cX1_weakestNow 53 = .ok (.getfield 15, 3) := by decide +kernel
theorem dX1_weakestNow_56 : decode cX1_weakestNow 56 = .ok (.iload_n 2, 1) := by decide +kernel
theorem dX1_weakestNow_57 : decode cX1_weakestNow 57 = .ok (.iaload, 1) := by decide +kernel
theorem dX1_weakestNow_58 : decode cX1_weakestNow 58 = .ok (.invokevirtual 47, 3) := by decide +kernel
theorem dX1_weakestNow_61 : decode cX1_weakestNow 61 = .ok (.invokestatic 30, 3) := by decide +kernel
theorem dX1_weakestNow_64 : decode cX1_weakestNow 64 = .ok (.istore_n 1, 1) := by decide +kernel
theorem dX1_weakestNow_65 : decode cX1_weakestNow 65 = .ok (.iinc 2 1, 3) := by decide +kernel
theorem dX1_weakestNow_68 : decode cX1_weakestNow 68 = .ok (.goto (-34), 3) := by decide +kernel
theorem dX1_weakestNow_71 : decode cX1_weakestNow 71 = .ok (.iload_n 1, 1) := by decide +kernel
theorem dX1_weakestNow_72 : decode cX1_weakestNow 72 = .ok (.ireturn, 1) := by decide +kernel
theorem dX1_change_0 : decode cX1_change 0 = .ok (.iload_n 1, 1) := by decide +kernel
theorem dX1_change_1 : decode cX1_change 1 = .ok (.ifCond .lt 49, 3) := by decide +kernel
theorem dX1_change_4 : decode cX1_change 4 = .ok (.iload_n 1, 1) := by decide +kernel
theorem dX1_change_5 : decode cX1_change 5 = .ok (.aload_n 0, 1) := by decide +kernel
theorem dX1_change_6 : decode cX1_change 6 = .ok (.getfield 36, 3) := by decide +kernel
theorem dX1_change_9 : decode cX1_change 9 = .ok (.if_icmp .ge 41, 3) := by decide +kernel
theorem dX1_change_12 : decode cX1_change 12 = .ok (.iload_n 2, 1) := by decide +kernel
theorem dX1_change_13 : decode cX1_change 13 = .ok (.ifCond .lt 37, 3) := by decide +kernel
theorem dX1_change_16 : decode cX1_change 16 = .ok (.iload_n 2, 1) := by decide +kernel
theorem dX1_change_17 : decode cX1_change 17 = .ok (.aload_n 0, 1) := by decide +kernel
theorem dX1_change_18 : decode cX1_change 18 = .ok (.getfield 36, 3) := by decide +kernel
theorem dX1_change_21 : decode cX1_change 21 = .ok (.if_icmp .ge 29, 3) := by decide +kernel
theorem dX1_change_24 : decode cX1_change 24 = .ok (.aload_n 0, 1) := by decide +kernel
theorem dX1_change_25 : decode cX1_change 25 = .ok (.getfield 15, 3) := by decide +kernel
theorem dX1_change_28 : decode cX1_change 28 = .ok (.iload_n 1, 1) := by decide +kernel
theorem dX1_change_29 : decode cX1_change 29 = .ok (.iaload, 1) := by decide +kernel
theorem dX1_change_30 : decode cX1_change 30 = .ok (.istore_n 3, 1) := by decide +kernel
theorem dX1_change_31 : decode cX1_change 31 = .ok (.aload_n 0, 1) := by decide +kernel
theorem dX1_change_32 : decode cX1_change 32 = .ok (.getfield 15, 3) := by decide +kernel
theorem dX1_change_35 : decode cX1_change 35 = .ok (.iload_n 1, 1) := by decide +kernel
theorem dX1_change_36 : decode cX1_change 36 = .ok (.aload_n 0, 1) := by decide +kernel
theorem dX1_change_37 : decode cX1_change 37 = .ok (.getfield 15, 3) := by decide +kernel
theorem dX1_change_40 : decode cX1_change 40 = .ok (.iload_n 2, 1) := by decide +kernel
theorem dX1_change_41 : decode cX1_change 41 = .ok (.iaload, 1) := by decide +kernel
theorem dX1_change_42 : decode cX1_change 42 = .ok (.iastore, 1) := by decide +kernel
theorem dX1_change_43 : decode cX1_change 43 = .ok (.aload_n 0, 1) := by decide +kernel
theorem dX1_change_44 : decode cX1_change 44 = .ok (.getfield 15, 3) := by decide +kernel
theorem dX1_change_47 : decode cX1_change 47 = .ok (.iload_n 2, 1) := by decide +kernel
theorem dX1_change_48 : decode cX1_change 48 = .ok (.iload_n 3, 1) := by decide +kernel
theorem dX1_change_49 : decode cX1_change 49 = .ok (.iastore, 1) := by decide +kernel
theorem dX1_change_50 : decode cX1_change 50 = .ok (.return_, 1) := by decide +kernel
theorem dX1_seekBest_0 : decode cX1_seekBest 0 = .ok (.aload_n 0, 1) := by decide +kernel
theorem dX1_seekBest_1 : decode cX1_seekBest 1 = .ok (.iconst (-1), 1) := by decide +kernel
theorem dX1_seekBest_2 : decode cX1_seekBest 2 = .ok (.putfield 50, 3) := by decide +kernel
theorem dX1_seekBest_5 : decode cX1_seekBest 5 = .ok (.aload_n 0, 1) := by decide +kernel
theorem dX1_seekBest_6 : decode cX1_seekBest 6 = .ok (.getfield 15, 3) := by decide +kernel
theorem dX1_seekBest_9 : decode cX1_seekBest 9 = .ok (.iconst 0, 1) := by decide +kernel
theorem dX1_seekBest_10 : decode cX1_seekBest 10 = .ok (.aload_n 0, 1) := by decide +kernel
theorem dX1_seekBest_11 : decode cX1_seekBest 11 = .ok (.getfield 21, 3) := by decide +kernel
theorem dX1_seekBest_14 : decode cX1_seekBest 14 = .ok (.iconst 0, 1) := by decide +kernel
theorem dX1_seekBest_15 : decode cX1_seekBest 15 = .ok (.bipush 6, 2) := by decide +kernel
theorem dX1_seekBest_17 : decode cX1_seekBest 17 = .ok (.invokestatic 38, 3) := by decide +kernel
theorem dX1_seekBest_20 : decode cX1_seekBest 20 = .ok (.iconst 0, 1) := by decide +kernel
theorem dX1_seekBest_21 : decode cX1_seekBest 21 = .ok (.istore_n 1, 1) := by decide +kernel
theorem dX1_seekBest_22 : decode cX1_seekBest 22 = .ok (.iconst 1, 1) := by decide +kernel
theorem dX1_seekBest_23 : decode cX1_seekBest 23 = .ok (.istore_n 2, 1) := by decide +kernel
theorem dX1_seekBest_24 : decode cX1_seekBest 24 = .ok (.iload_n 2, 1) := by decide +kernel
theorem dX1_seekBest_25 : decode cX1_seekBest 25 = .ok (.aload_n 0, 1) := by decide +kernel
theorem dX1_seekBest_26 : decode cX1_seekBest 26 = .ok (.getfield 36, 3) := by decide +kernel
theorem dX1_seekBest_29 : decode cX1_seekBest 29 = .ok (.if_icmp .ge 20, 3) := by decide +kernel
theorem dX1_seekBest_32 : decode cX1_seekBest 32 = .ok (.iload_n 1, 1) := by decide +kernel
theorem dX1_seekBest_33 : decode cX1_seekBest 33 = .ok (.iconst 1, 1) := by decide +kernel
theorem dX1_seekBest_34 : decode cX1_seekBest 34 = .ok (.aload_n 0, 1) := by decide +kernel
theorem dX1_seekBest_35 : decode cX1_seekBest 35 = .ok (.getfield 15, 3) := by decide +kernel
theorem dX1_seekBest_38 : decode cX1_seekBest 38 = .ok (.iload_n 2, 1) := by decide +kernel
theorem dX1_seekBest_39 : decode cX1_seekBest 39 = .ok (.iaload, 1) := by decide +kernel
theorem dX1_seekBest_40 : decode cX1_seekBest 40 = .ok (.ishl, 1) := by decide +kernel
theorem dX1_seekBest_41 : decode cX1_seekBest 41 = .ok (.ior, 1) := by decide +kernel
theorem dX1_seekBest_42 : decode cX1_seekBest 42 = .ok (.istore_n 1, 1) := by decide +kernel
theorem dX1_seekBest_43 : decode cX1_seekBest 43 = .ok (.iinc 2 1, 3) := by decide +kernel
theorem dX1_seekBest_46 : decode cX1_seekBest 46 = .ok (.goto (-22), 3) := by decide +kernel
theorem dX1_seekBest_49 : decode cX1_seekBest 49 = .ok (.aload_n 0, 1) := by decide +kernel
theorem dX1_seekBest_50 : decode cX1_seekBest 50 = .ok (.getfield 36, 3) := by decide +kernel
theorem dX1_seekBest_53 : decode cX1_seekBest 53 = .ok (.iconst 1, 1) := by decide +kernel
theorem dX1_seekBest_54 : decode cX1_seekBest 54 = .ok (.if_icmp .le 11, 3) := by decide +kernel
theorem dX1_seekBest_57 : decode cX1_seekBest 57 = .ok (.aload_n 0, 1) := by decide +kernel
theorem dX1_seekBest_58 : decode cX1_seekBest 58 = .ok (.iconst 1, 1) := by decide +kernel
theorem dX1_seekBest_59 : decode cX1_seekBest 59 = .ok (.iload_n 1, 1) := by decide +kernel
theorem dX1_seekBest_60 : decode cX1_seekBest 60 = .ok (.bipush 99, 2) := by decide +kernel
theorem dX1_seekBest_62 : decode cX1_seekBest 62 = .ok (.invokevirtual 53, 3) := by decide +kernel
theorem dX1_seekBest_65 : decode cX1_seekBest 65 = .ok (.return_, 1) := by decide +kernel
theorem dX1_seekFrom_0 : decode cX1_seekFrom 0 = .ok (.iload_n 3, 1) := by decide +kernel
theorem dX1_seekFrom_1 : decode cX1_seekFrom 1 = .ok (.aload_n 0, 1) := by decide +kernel
theorem dX1_seekFrom_2 : decode cX1_seekFrom 2 = .ok (.getfield 50, 3) := by decide +kernel
theorem dX1_seekFrom_5 : decode cX1_seekFrom 5 = .ok (.if_icmp .gt 4, 3) := by decide +kernel
theorem dX1_seekFrom_8 : decode cX1_seekFrom 8 = .ok (.return_, 1) := by decide +kernel
theorem dX1_seekFrom_9 : decode cX1_seekFrom 9 = .ok (.iload_n 1, 1) := by decide +kernel
theorem dX1_seekFrom_10 : decode cX1_seekFrom 10 = .ok (.aload_n 0, 1) := by decide +kernel
theorem dX1_seekFrom_11 : decode cX1_seekFrom 11 = .ok (.getfield 36, 3) := by decide +kernel
theorem dX1_seekFrom_14 : decode cX1_seekFrom 14 = .ok (.if_icmp .ge 9, 3) := by decide +kernel
theorem dX1_seekFrom_17 : decode cX1_seekFrom 17 = .ok (.iload_n 1, 1) := by decide +kernel
theorem dX1_seekFrom_18 : decode cX1_seekFrom 18 = .ok (.bipush 6, 2) := by decide +kernel
theorem dX1_seekFrom_20 : decode cX1_seekFrom 20 = .ok (.if_icmp .lt 61, 3) := by decide +kernel
theorem dX1_seekFrom_23 : decode cX1_seekFrom 23 = .ok (.iload_n 3, 1) := by decide +kernel
theorem dX1_seekFrom_24 : decode cX1_seekFrom 24 = .ok (.aload_n 0, 1) := by decide +kernel
theorem dX1_seekFrom_25 : decode cX1_seekFrom 25 = .ok (.aload_n 0, 1) := by decide +kernel
theorem dX1_seekFrom_26 : decode cX1_seekFrom 26 = .ok (.getfield 15, 3) := by decide +kernel
theorem dX1_seekFrom_29 : decode cX1_seekFrom 29 = .ok (.aload_n 0, 1) := by decide +kernel
theorem dX1_seekFrom_30 : decode cX1_seekFrom 30 = .ok (.getfield 36, 3) := by decide +kernel
theorem dX1_seekFrom_33 : decode cX1_seekFrom 33 = .ok (.iconst 1, 1) := by decide +kernel
theorem dX1_seekFrom_34 : decode cX1_seekFrom 34 = .ok (.isub, 1) := by decide +kernel
theorem dX1_seekFrom_35 : decode cX1_seekFrom 35 = .ok (.iaload, 1) := by decide +kernel
theorem dX1_seekFrom_36 : decode cX1_seekFrom 36 = .ok (.aload_n 0, 1) := by decide +kernel
theorem dX1_seekFrom_37 : decode cX1_seekFrom 37 = .ok (.getfield 15, 3) := by decide +kernel
theorem dX1_seekFrom_40 : decode cX1_seekFrom 40 = .ok (.iconst 0, 1) := by decide +kernel
theorem dX1_seekFrom_41 : decode cX1_seekFrom 41 = .ok (.iaload, 1) := by decide +kernel
theorem dX1_seekFrom_42 : decode cX1_seekFrom 42 = .ok (.invokevirtual 47, 3) := by decide +kernel
theorem dX1_seekFrom_45 : decode cX1_seekFrom 45 = .ok (.invokestatic 30, 3) := by decide +kernel
theorem dX1_seekFrom_48 : decode cX1_seekFrom 48 = .ok (.istore 4, 2) := by decide +kernel
theorem dX1_seekFrom_50 : decode cX1_seekFrom 50 = .ok (.iload 4, 2) := by decide +kernel
theorem dX1_seekFrom_52 : decode cX1_seekFrom 52 = .ok (.aload_n 0, 1) := by decide +kernel
theorem dX1_seekFrom_53 : decode cX1_seekFrom 53 = .ok (.getfield 50, 3) := by decide +kernel
theorem dX1_seekFrom_56 : decode cX1_seekFrom 56 = .ok (.if_icmp .le 24, 3) := by decide +kernel
theorem dX1_seekFrom_59 : decode cX1_seekFrom 59 = .ok (.aload_n 0, 1) := by decide +kernel
theorem dX1_seekFrom_60 : decode cX1_seekFrom 60 = .ok (.iload 4, 2) := by decide +kernel
theorem dX1_seekFrom_62 : decode cX1_seekFrom 62 = .ok (.putfield 50, 3) := by decide +kernel
theorem dX1_seekFrom_65 : decode cX1_seekFrom 65 = .ok (.aload_n 0, 1) := by decide +kernel
theorem dX1_seekFrom_66 : decode cX1_seekFrom 66 = .ok (.getfield 15, 3) := by decide +kernel
theorem dX1_seekFrom_69 : decode cX1_seekFrom 69 = .ok (.iconst 0, 1) := by decide +kernel
theorem dX1_seekFrom_70 : decode cX1_seekFrom 70 = .ok (.aload_n 0, 1) := by decide +kernel
theorem dX1_seekFrom_71 : decode cX1_seekFrom 71 = .ok (.getfield 21, 3) := by decide +kernel
theorem dX1_seekFrom_74 : decode cX1_seekFrom 74 = .ok (.iconst 0, 1) := by decide +kernel
theorem dX1_seekFrom_75 : decode cX1_seekFrom 75 = .ok (.bipush 6, 2) := by decide +kernel
theorem dX1_seekFrom_77 : decode cX1_seekFrom 77 = .ok (.invokestatic 38, 3) := by decide +kernel
theorem dX1_seekFrom_80 : decode cX1_seekFrom 80 = .ok (.return_, 1) := by decide +kernel
theorem dX1_seekFrom_81 : decode cX1_seekFrom 81 = .ok (.iconst 0, 1) := by decide +kernel
theorem dX1_seekFrom_82 : decode cX1_seekFrom 82 = .ok (.istore 4, 2) := by decide +kernel
theorem dX1_seekFrom_84 : decode cX1_seekFrom 84 = .ok (.iload 4, 2) := by decide +kernel
theorem dX1_seekFrom_86 : decode cX1_seekFrom 86 = .ok (.bipush 6, 2) := by decide +kernel
theorem dX1_seekFrom_88 : decode cX1_seekFrom 88 = .ok (.if_icmp .ge 64, 3) := by decide +kernel
theorem dX1_seekFrom_91 : decode cX1_seekFrom 91 = .ok (.iload_n 2, 1) := by decide +kernel
theorem dX1_seekFrom_92 : decode cX1_seekFrom 92 = .ok (.iload 4, 2) := by decide +kernel
theorem dX1_seekFrom_94 : decode cX1_seekFrom 94 = .ok (.ishr, 1) := by decide +kernel
theorem dX1_seekFrom_95 : decode cX1_seekFrom 95 = .ok (.iconst 1, 1) := by decide +kernel
theorem dX1_seekFrom_96 : decode cX1_seekFrom 96 = .ok (.iand, 1) := by decide +kernel
theorem dX1_seekFrom_97 : decode cX1_seekFrom 97 = .ok (.iconst 1, 1) := by decide +kernel
theorem dX1_seekFrom_98 : decode cX1_seekFrom 98 = .ok (.if_icmp .ne 48, 3) := by decide +kernel
theorem dX1_seekFrom_101 : decode cX1_seekFrom 101 = .ok (.aload_n 0, 1) := by decide +kernel
theorem dX1_seekFrom_102 : decode cX1_seekFrom 102 = .ok (.getfield 15, 3) := by decide +kernel
theorem dX1_seekFrom_105 : decode cX1_seekFrom 105 = .ok (.iload_n 1, 1) := by decide +kernel
theorem dX1_seekFrom_106 : decode cX1_seekFrom 106 = .ok (.iload 4, 2) := by decide +kernel
theorem dX1_seekFrom_108 : decode cX1_seekFrom 108 = .ok (.iastore, 1) := by decide +kernel
theorem dX1_seekFrom_109 : decode cX1_seekFrom 109 = .ok (.aload_n 0, 1) := by decide +kernel
theorem dX1_seekFrom_110 : decode cX1_seekFrom 110 = .ok (.aload_n 0, 1) := by decide +kernel
theorem dX1_seekFrom_111 : decode cX1_seekFrom 111 = .ok (.getfield 15, 3) := by decide +kernel
theorem dX1_seekFrom_114 : decode cX1_seekFrom 114 = .ok (.iload_n 1, 1) := by decide +kernel
theorem dX1_seekFrom_115 : decode cX1_seekFrom 115 = .ok (.iconst 1, 1) := by decide +kernel
theorem dX1_seekFrom_116 : decode cX1_seekFrom 116 = .ok (.isub, 1) := by decide +kernel
theorem dX1_seekFrom_117 : decode cX1_seekFrom 117 = .ok (.iaload, 1) := by decide +kernel
theorem dX1_seekFrom_118 : decode cX1_seekFrom 118 = .ok (.iload 4, 2) := by decide +kernel
theorem dX1_seekFrom_120 : decode cX1_seekFrom 120 = .ok (.invokevirtual 47, 3) := by decide +kernel
theorem dX1_seekFrom_123 : decode cX1_seekFrom 123 = .ok (.istore 5, 2) := by decide +kernel
theorem dX1_seekFrom_125 : decode cX1_seekFrom 125 = .ok (.aload_n 0, 1) := by decide +kernel
theorem dX1_seekFrom_126 : decode cX1_seekFrom 126 = .ok (.iload_n 1, 1) := by decide +kernel
theorem dX1_seekFrom_127 : decode cX1_seekFrom 127 = .ok (.iconst 1, 1) := by decide +kernel
theorem dX1_seekFrom_128 : decode cX1_seekFrom 128 = .ok (.iadd, 1) := by decide +kernel
theorem dX1_seekFrom_129 : decode cX1_seekFrom 129 = .ok (.iload_n 2, 1) := by decide +kernel
theorem dX1_seekFrom_130 : decode cX1_seekFrom 130 = .ok (.iconst 1, 1) := by decide +kernel
theorem dX1_seekFrom_131 : decode cX1_seekFrom 131 = .ok (.iload 4, 2) := by decide +kernel
theorem dX1_seekFrom_133 : decode cX1_seekFrom 133 = .ok (.ishl, 1) := by decide +kernel
theorem dX1_seekFrom_134 : decode cX1_seekFrom 134 = .ok (.iconst (-1), 1) := by decide +kernel
theorem dX1_seekFrom_135 : decode cX1_seekFrom 135 = .ok (.ixor, 1) := by decide +kernel
theorem dX1_seekFrom_136 : decode cX1_seekFrom 136 = .ok (.iand, 1) := by decide +kernel
theorem dX1_seekFrom_137 : decode cX1_seekFrom 137 = .ok (.iload_n 3, 1) := by decide +kernel
theorem dX1_seekFrom_138 : decode cX1_seekFrom 138 = .ok (.iload 5, 2) := by decide +kernel
theorem dX1_seekFrom_140 : decode cX1_seekFrom 140 = .ok (.invokestatic 30, 3) := by decide +kernel
theorem dX1_seekFrom_143 : decode cX1_seekFrom 143 = .ok (.invokevirtual 53, 3) := by decide +kernel
theorem dX1_seekFrom_146 : decode cX1_seekFrom 146 = .ok (.iinc 4 1, 3) := by decide +kernel
theorem dX1_seekFrom_149 : decode cX1_seekFrom 149 = .ok (.goto (-65), 3) := by decide +kernel
theorem dX1_seekFrom_152 : decode cX1_seekFrom 152 = .ok (.return_, 1) := by decide +kernel
theorem dX1_bestDigits_0 : decode cX1_bestDigits 0 = .ok (.iconst 0, 1) := by decide +kernel
theorem dX1_bestDigits_1 : decode cX1_bestDigits 1 = .ok (.istore_n 1, 1) := by decide +kernel
theorem dX1_bestDigits_2 : decode cX1_bestDigits 2 = .ok (.iconst 0, 1) := by decide +kernel
theorem dX1_bestDigits_3 : decode cX1_bestDigits 3 = .ok (.istore_n 2, 1) := by decide +kernel
theorem dX1_bestDigits_4 : decode cX1_bestDigits 4 = .ok (.iload_n 2, 1) := by decide +kernel
theorem dX1_bestDigits_5 : decode cX1_bestDigits 5 = .ok (.aload_n 0, 1) := by decide +kernel
theorem dX1_bestDigits_6 : decode cX1_bestDigits 6 = .ok (.getfield 36, 3) := by decide +kernel
theorem dX1_bestDigits_9 : decode cX1_bestDigits 9 = .ok (.if_icmp .ge 23, 3) := by decide +kernel
theorem dX1_bestDigits_12 : decode cX1_bestDigits 12 = .ok (.iload_n 1, 1) := by decide +kernel
theorem dX1_bestDigits_13 : decode cX1_bestDigits 13 = .ok (.bipush 10, 2) := by decide +kernel
theorem dX1_bestDigits_15 : decode cX1_bestDigits 15 = .ok (.imul, 1) := by decide +kernel
theorem dX1_bestDigits_16 : decode cX1_bestDigits 16 = .ok (.aload_n 0, 1) := by decide +kernel
theorem dX1_bestDigits_17 : decode cX1_bestDigits 17 = .ok (.getfield 21, 3) := by decide +kernel
theorem dX1_bestDigits_20 : decode cX1_bestDigits 20 = .ok (.iload_n 2, 1) := by decide +kernel
theorem dX1_bestDigits_21 : decode cX1_bestDigits 21 = .ok (.iaload, 1) := by decide +kernel
theorem dX1_bestDigits_22 : decode cX1_bestDigits 22 = .ok (.iadd, 1) := by decide +kernel
theorem dX1_bestDigits_23 : decode cX1_bestDigits 23 = .ok (.iconst 1, 1) := by decide +kernel
theorem dX1_bestDigits_24 : decode cX1_bestDigits 24 = .ok (.iadd, 1) := by decide +kernel
theorem dX1_bestDigits_25 : decode cX1_bestDigits 25 = .ok (.istore_n 1, 1) := by decide +kernel
theorem dX1_bestDigits_26 : decode cX1_bestDigits 26 = .ok (.iinc 2 1, 3) := by decide +kernel
theorem dX1_bestDigits_29 : decode cX1_bestDigits 29 = .ok (.goto (-25), 3) := by decide +kernel
theorem dX1_bestDigits_32 : decode cX1_bestDigits 32 = .ok (.iload_n 1, 1) := by decide +kernel
theorem dX1_bestDigits_33 : decode cX1_bestDigits 33 = .ok (.ireturn, 1) := by decide +kernel
theorem dX1_fewestChanges_0 : decode cX1_fewestChanges 0 = .ok (.iconst 0, 1) := by decide +kernel
theorem dX1_fewestChanges_1 : decode cX1_fewestChanges 1 = .ok (.istore_n 1, 1) := by decide +kernel
theorem dX1_fewestChanges_2 : decode cX1_fewestChanges 2 = .ok (.iload_n 1, 1) := by decide +kernel
theorem dX1_fewestChanges_3 : decode cX1_fewestChanges 3 = .ok (.iconst 2, 1) := by decide +kernel
theorem dX1_fewestChanges_4 : decode cX1_fewestChanges 4 = .ok (.if_icmp .gt 19, 3) := by decide +kernel
theorem dX1_fewestChanges_7 : decode cX1_fewestChanges 7 = .ok (.aload_n 0, 1) := by decide +kernel
theorem dX1_fewestChanges_8 : decode cX1_fewestChanges 8 = .ok (.iload_n 1, 1) := by decide +kernel
theorem dX1_fewestChanges_9 : decode cX1_fewestChanges 9 = .ok (.invokevirtual 57, 3) := by decide +kernel
theorem dX1_fewestChanges_12 : decode cX1_fewestChanges 12 = .ok (.ifCond .eq 5, 3) := by decide +kernel
theorem dX1_fewestChanges_15 : decode cX1_fewestChanges 15 = .ok (.iload_n 1, 1) := by decide +kernel
theorem dX1_fewestChanges_16 : decode cX1_fewestChanges 16 = .ok (.ireturn, 1) := by decide +kernel
theorem dX1_fewestChanges_17 : decode cX1_fewestChanges 17 = .ok (.iinc 1 1, 3) := by decide +kernel
theorem dX1_fewestChanges_20 : decode cX1_fewestChanges 20 = .ok (.goto (-18), 3) := by decide +kernel
theorem dX1_fewestChanges_23 : decode cX1_fewestChanges 23 = .ok (.iconst (-1), 1) := by decide +kernel
theorem dX1_fewestChanges_24 : decode cX1_fewestChanges 24 = .ok (.ireturn, 1) := by decide +kernel
theorem dX1_closesBy_0 : decode cX1_closesBy 0 = .ok (.iload_n 1, 1) := by decide +kernel
theorem dX1_closesBy_1 : decode cX1_closesBy 1 = .ok (.ifCond .gt 16, 3) := by decide +kernel
theorem dX1_closesBy_4 : decode cX1_closesBy 4 = .ok (.aload_n 0, 1) := by decide +kernel
theorem dX1_closesBy_5 : decode cX1_closesBy 5 = .ok (.invokevirtual 61, 3) := by decide +kernel
theorem dX1_closesBy_8 : decode cX1_closesBy 8 = .ok (.ifCond .eq 7, 3) := by decide +kernel
theorem dX1_closesBy_11 : decode cX1_closesBy 11 = .ok (.iconst 1, 1) := by decide +kernel
theorem dX1_closesBy_12 : decode cX1_closesBy 12 = .ok (.goto 4, 3) := by decide +kernel
theorem dX1_closesBy_15 : decode cX1_closesBy 15 = .ok (.iconst 0, 1) := by decide +kernel
theorem dX1_closesBy_16 : decode cX1_closesBy 16 = .ok (.ireturn, 1) := by decide +kernel
theorem dX1_closesBy_17 : decode cX1_closesBy 17 = .ok (.iconst 0, 1) := by decide +kernel
theorem dX1_closesBy_18 : decode cX1_closesBy 18 = .ok (.istore_n 2, 1) := by decide +kernel
theorem dX1_closesBy_19 : decode cX1_closesBy 19 = .ok (.iconst 0, 1) := by decide +kernel
theorem dX1_closesBy_20 : decode cX1_closesBy 20 = .ok (.istore_n 3, 1) := by decide +kernel
theorem dX1_closesBy_21 : decode cX1_closesBy 21 = .ok (.iload_n 3, 1) := by decide +kernel
theorem dX1_closesBy_22 : decode cX1_closesBy 22 = .ok (.aload_n 0, 1) := by decide +kernel
theorem dX1_closesBy_23 : decode cX1_closesBy 23 = .ok (.getfield 36, 3) := by decide +kernel
theorem dX1_closesBy_26 : decode cX1_closesBy 26 = .ok (.if_icmp .ge 54, 3) := by decide +kernel
theorem dX1_closesBy_29 : decode cX1_closesBy 29 = .ok (.iload_n 2, 1) := by decide +kernel
theorem dX1_closesBy_30 : decode cX1_closesBy 30 = .ok (.ifCond .ne 50, 3) := by decide +kernel
theorem dX1_closesBy_33 : decode cX1_closesBy 33 = .ok (.iconst 0, 1) := by decide +kernel
theorem dX1_closesBy_34 : decode cX1_closesBy 34 = .ok (.istore 4, 2) := by decide +kernel
theorem dX1_closesBy_36 : decode cX1_closesBy 36 = .ok (.iload 4, 2) := by decide +kernel
theorem dX1_closesBy_38 : decode cX1_closesBy 38 = .ok (.iload_n 3, 1) := by decide +kernel
theorem dX1_closesBy_39 : decode cX1_closesBy 39 = .ok (.if_icmp .ge 35, 3) := by decide +kernel
theorem dX1_closesBy_42 : decode cX1_closesBy 42 = .ok (.iload_n 2, 1) := by decide +kernel
theorem dX1_closesBy_43 : decode cX1_closesBy 43 = .ok (.ifCond .ne 31, 3) := by decide +kernel
theorem dX1_closesBy_46 : decode cX1_closesBy 46 = .ok (.aload_n 0, 1) := by decide +kernel
theorem dX1_closesBy_47 : decode cX1_closesBy 47 = .ok (.iload_n 3, 1) := by decide +kernel
theorem dX1_closesBy_48 : decode cX1_closesBy 48 = .ok (.iload 4, 2) := by decide +kernel
theorem dX1_closesBy_50 : decode cX1_closesBy 50 = .ok (.invokevirtual 65, 3) := by decide +kernel
theorem dX1_closesBy_53 : decode cX1_closesBy 53 = .ok (.aload_n 0, 1) := by decide +kernel
theorem dX1_closesBy_54 : decode cX1_closesBy 54 = .ok (.iload_n 1, 1) := by decide +kernel
theorem dX1_closesBy_55 : decode cX1_closesBy 55 = .ok (.iconst 1, 1) := by decide +kernel
theorem dX1_closesBy_56 : decode cX1_closesBy 56 = .ok (.isub, 1) := by decide +kernel
theorem dX1_closesBy_57 : decode cX1_closesBy 57 = .ok (.invokevirtual 57, 3) := by decide +kernel
theorem dX1_closesBy_60 : decode cX1_closesBy 60 = .ok (.istore_n 2, 1) := by decide +kernel
theorem dX1_closesBy_61 : decode cX1_closesBy 61 = .ok (.aload_n 0, 1) := by decide +kernel
theorem dX1_closesBy_62 : decode cX1_closesBy 62 = .ok (.iload_n 3, 1) := by decide +kernel
theorem dX1_closesBy_63 : decode cX1_closesBy 63 = .ok (.iload 4, 2) := by decide +kernel
theorem dX1_closesBy_65 : decode cX1_closesBy 65 = .ok (.invokevirtual 65, 3) := by decide +kernel
theorem dX1_closesBy_68 : decode cX1_closesBy 68 = .ok (.iinc 4 1, 3) := by decide +kernel
theorem dX1_closesBy_71 : decode cX1_closesBy 71 = .ok (.goto (-35), 3) := by decide +kernel
theorem dX1_closesBy_74 : decode cX1_closesBy 74 = .ok (.iinc 3 1, 3) := by decide +kernel
theorem dX1_closesBy_77 : decode cX1_closesBy 77 = .ok (.goto (-56), 3) := by decide +kernel
theorem dX1_closesBy_80 : decode cX1_closesBy 80 = .ok (.iload_n 2, 1) := by decide +kernel
theorem dX1_closesBy_81 : decode cX1_closesBy 81 = .ok (.ireturn, 1) := by decide +kernel
theorem dX1_weakestDrawn_0 : decode cX1_weakestDrawn 0 = .ok (.aload_n 0, 1) := by decide +kernel
theorem dX1_weakestDrawn_1 : decode cX1_weakestDrawn 1 = .ok (.getfield 18, 3) := by decide +kernel
theorem dX1_weakestDrawn_4 : decode cX1_weakestDrawn 4 = .ok (.iconst 0, 1) := by decide +kernel
theorem dX1_weakestDrawn_5 : decode cX1_weakestDrawn 5 = .ok (.aload_n 0, 1) := by decide +kernel
theorem dX1_weakestDrawn_6 : decode cX1_weakestDrawn 6 = .ok (.getfield 15, 3) := by decide +kernel
theorem dX1_weakestDrawn_9 : decode cX1_weakestDrawn 9 = .ok (.iconst 0, 1) := by decide +kernel
theorem dX1_weakestDrawn_10 : decode cX1_weakestDrawn 10 = .ok (.bipush 6, 2) := by decide +kernel
theorem dX1_weakestDrawn_12 : decode cX1_weakestDrawn 12 = .ok (.invokestatic 38, 3) := by decide +kernel
theorem dX1_weakestDrawn_15 : decode cX1_weakestDrawn 15 = .ok (.iload_n 1, 1) := by decide +kernel
theorem dX1_weakestDrawn_16 : decode cX1_weakestDrawn 16 = .ok (.istore_n 3, 1) := by decide +kernel
theorem dX1_weakestDrawn_17 : decode cX1_weakestDrawn 17 = .ok (.iconst 0, 1) := by decide +kernel
theorem dX1_weakestDrawn_18 : decode cX1_weakestDrawn 18 = .ok (.istore 4, 2) := by decide +kernel
theorem dX1_weakestDrawn_20 : decode cX1_weakestDrawn 20 = .ok (.iload 4, 2) := by decide +kernel
theorem dX1_weakestDrawn_22 : decode cX1_weakestDrawn 22 = .ok (.iload_n 2, 1) := by decide +kernel
theorem dX1_weakestDrawn_23 : decode cX1_weakestDrawn 23 = .ok (.if_icmp .ge 48, 3) := by decide +kernel
theorem dX1_weakestDrawn_26 : decode cX1_weakestDrawn 26 = .ok (.iload_n 3, 1) := by decide +kernel
theorem dX1_weakestDrawn_27 : decode cX1_weakestDrawn 27 = .ok (.ldc 69, 2) := by decide +kernel
theorem dX1_weakestDrawn_29 : decode cX1_weakestDrawn 29 = .ok (.imul, 1) := by decide +kernel
theorem dX1_weakestDrawn_30 : decode cX1_weakestDrawn 30 = .ok (.sipush 12345, 3) := by decide +kernel
theorem dX1_weakestDrawn_33 : decode cX1_weakestDrawn 33 = .ok (.iadd, 1) := by decide +kernel
theorem dX1_weakestDrawn_34 : decode cX1_weakestDrawn 34 = .ok (.istore 5, 2) := by decide +kernel
theorem dX1_weakestDrawn_36 : decode cX1_weakestDrawn 36 = .ok (.iload 5, 2) := by decide +kernel
theorem dX1_weakestDrawn_38 : decode cX1_weakestDrawn 38 = .ok (.ldc 69, 2) := by decide +kernel
theorem dX1_weakestDrawn_40 : decode cX1_weakestDrawn 40 = .ok (.imul, 1) := by decide +kernel
theorem dX1_weakestDrawn_41 : decode cX1_weakestDrawn 41 = .ok (.sipush 12345, 3) := by decide +kernel
theorem dX1_weakestDrawn_44 : decode cX1_weakestDrawn 44 = .ok (.iadd, 1) := by decide +kernel
theorem dX1_weakestDrawn_45 : decode cX1_weakestDrawn 45 = .ok (.istore_n 3, 1) := by decide +kernel
theorem dX1_weakestDrawn_46 : decode cX1_weakestDrawn 46 = .ok (.aload_n 0, 1) := by decide +kernel
theorem dX1_weakestDrawn_47 : decode cX1_weakestDrawn 47 = .ok (.iload 5, 2) := by decide +kernel
theorem dX1_weakestDrawn_49 : decode cX1_weakestDrawn 49 = .ok (.bipush 9, 2) := by decide +kernel
theorem dX1_weakestDrawn_51 : decode cX1_weakestDrawn 51 = .ok (.iushr, 1) := by decide +kernel
theorem dX1_weakestDrawn_52 : decode cX1_weakestDrawn 52 = .ok (.bipush 8, 2) := by decide +kernel
theorem dX1_weakestDrawn_54 : decode cX1_weakestDrawn 54 = .ok (.irem, 1) := by decide +kernel
theorem dX1_weakestDrawn_55 : decode cX1_weakestDrawn 55 = .ok (.iload_n 3, 1) := by decide +kernel
theorem dX1_weakestDrawn_56 : decode cX1_weakestDrawn 56 = .ok (.bipush 9, 2) := by decide +kernel
theorem dX1_weakestDrawn_58 : decode cX1_weakestDrawn 58 = .ok (.iushr, 1) := by decide +kernel
theorem dX1_weakestDrawn_59 : decode cX1_weakestDrawn 59 = .ok (.bipush 8, 2) := by decide +kernel
theorem dX1_weakestDrawn_61 : decode cX1_weakestDrawn 61 = .ok (.irem, 1) := by decide +kernel
theorem dX1_weakestDrawn_62 : decode cX1_weakestDrawn 62 = .ok (.invokevirtual 65, 3) := by decide +kernel
theorem dX1_weakestDrawn_65 : decode cX1_weakestDrawn 65 = .ok (.iinc 4 1, 3) := by decide +kernel
theorem dX1_weakestDrawn_68 : decode cX1_weakestDrawn 68 = .ok (.goto (-48), 3) := by decide +kernel
theorem dX1_weakestDrawn_71 : decode cX1_weakestDrawn 71 = .ok (.aload_n 0, 1) := by decide +kernel
theorem dX1_weakestDrawn_72 : decode cX1_weakestDrawn 72 = .ok (.invokevirtual 61, 3) := by decide +kernel
theorem dX1_weakestDrawn_75 : decode cX1_weakestDrawn 75 = .ok (.ireturn, 1) := by decide +kernel
end
section
theorem dX2_init_0 : decode cX2_init 0 = .ok (.aload_n 0, 1) := by decide +kernel
theorem dX2_init_1 : decode cX2_init 1 = .ok (.invokespecial 3, 3) := by decide +kernel
theorem dX2_init_4 : decode cX2_init 4 = .ok (.aload_n 0, 1) := by decide +kernel
theorem dX2_init_5 : decode cX2_init 5 = .ok (.sipush 160, 3) := by decide +kernel
theorem dX2_init_8 : decode cX2_init 8 = .ok (.newarray .int, 2) := by decide +kernel
theorem dX2_init_10 : decode cX2_init 10 = .ok (.putfield 9, 3) := by decide +kernel
theorem dX2_init_13 : decode cX2_init 13 = .ok (.aload_n 0, 1) := by decide +kernel
theorem dX2_init_14 : decode cX2_init 14 = .ok (.aload_n 1, 1) := by decide +kernel
theorem dX2_init_15 : decode cX2_init 15 = .ok (.putfield 15, 3) := by decide +kernel
theorem dX2_init_18 : decode cX2_init 18 = .ok (.return_, 1) := by decide +kernel
theorem dX2_add_0 : decode cX2_add 0 = .ok (.aload_n 0, 1) := by decide +kernel
theorem dX2_add_1 : decode cX2_add 1 = .ok (.getfield 19, 3) := by decide +kernel
theorem dX2_add_4 : decode cX2_add 4 = .ok (.sipush 160, 3) := by decide +kernel
theorem dX2_add_7 : decode cX2_add 7 = .ok (.if_icmp .lt 5, 3) := by decide +kernel
theorem dX2_add_10 : decode cX2_add 10 = .ok (.iconst 0, 1) := by decide +kernel
theorem dX2_add_11 : decode cX2_add 11 = .ok (.ireturn, 1) := by decide +kernel
theorem dX2_add_12 : decode cX2_add 12 = .ok (.aload_n 0, 1) := by decide +kernel
theorem dX2_add_13 : decode cX2_add 13 = .ok (.getfield 9, 3) := by decide +kernel
theorem dX2_add_16 : decode cX2_add 16 = .ok (.aload_n 0, 1) := by decide +kernel
theorem dX2_add_17 : decode cX2_add 17 = .ok (.getfield 19, 3) := by decide +kernel
theorem dX2_add_20 : decode cX2_add 20 = .ok (.iload_n 1, 1) := by decide +kernel
theorem dX2_add_21 : decode cX2_add 21 = .ok (.iastore, 1) := by decide +kernel
theorem dX2_add_22 : decode cX2_add 22 = .ok (.aload_n 0, 1) := by decide +kernel
theorem dX2_add_23 : decode cX2_add 23 = .ok (.dup, 1) := by decide +kernel
theorem dX2_add_24 : decode cX2_add 24 = .ok (.getfield 19, 3) := by decide +kernel
theorem dX2_add_27 : decode cX2_add 27 = .ok (.iconst 1, 1) := by decide +kernel
theorem dX2_add_28 : decode cX2_add 28 = .ok (.iadd, 1) := by decide +kernel
theorem dX2_add_29 : decode cX2_add 29 = .ok (.putfield 19, 3) := by decide +kernel
theorem dX2_add_32 : decode cX2_add 32 = .ok (.iconst 1, 1) := by decide +kernel
theorem dX2_add_33 : decode cX2_add 33 = .ok (.ireturn, 1) := by decide +kernel
theorem dX2_read_0 : decode cX2_read 0 = .ok (.aload_n 0, 1) := by decide +kernel
theorem dX2_read_1 : decode cX2_read 1 = .ok (.iconst 0, 1) := by decide +kernel
theorem dX2_read_2 : decode cX2_read 2 = .ok (.putfield 23, 3) := by decide +kernel
theorem dX2_read_5 : decode cX2_read 5 = .ok (.aload_n 0, 1) := by decide +kernel
theorem dX2_read_6 : decode cX2_read 6 = .ok (.getfield 15, 3) := by decide +kernel
theorem dX2_read_9 : decode cX2_read 9 = .ok (.invokevirtual 26, 3) := by decide +kernel
theorem dX2_read_12 : decode cX2_read 12 = .ok (.aload_n 0, 1) := by decide +kernel
theorem dX2_read_13 : decode cX2_read 13 = .ok (.invokevirtual 31, 3) := by decide +kernel
theorem dX2_read_16 : decode cX2_read 16 = .ok (.iconst 1, 1) := by decide +kernel
theorem dX2_read_17 : decode cX2_read 17 = .ok (.istore_n 1, 1) := by decide +kernel
theorem dX2_read_18 : decode cX2_read 18 = .ok (.iconst 0, 1) := by decide +kernel
theorem dX2_read_19 : decode cX2_read 19 = .ok (.istore_n 2, 1) := by decide +kernel
theorem dX2_read_20 : decode cX2_read 20 = .ok (.iload_n 2, 1) := by decide +kernel
theorem dX2_read_21 : decode cX2_read 21 = .ok (.iconst 3, 1) := by decide +kernel
theorem dX2_read_22 : decode cX2_read 22 = .ok (.if_icmp .ge 19, 3) := by decide +kernel
theorem dX2_read_25 : decode cX2_read 25 = .ok (.iload_n 1, 1) := by decide +kernel
theorem dX2_read_26 : decode cX2_read 26 = .ok (.ifCond .eq 15, 3) := by decide +kernel
theorem dX2_read_29 : decode cX2_read 29 = .ok (.aload_n 0, 1) := by decide +kernel
theorem dX2_read_30 : decode cX2_read 30 = .ok (.iload_n 2, 1) := by decide +kernel
theorem dX2_read_31 : decode cX2_read 31 = .ok (.invokevirtual 34, 3) := by decide +kernel
theorem dX2_read_34 : decode cX2_read 34 = .ok (.istore_n 1, 1) := by decide +kernel
theorem dX2_read_35 : decode cX2_read 35 = .ok (.iinc 2 1, 3) := by decide +kernel
theorem dX2_read_38 : decode cX2_read 38 = .ok (.goto (-18), 3) := by decide +kernel
theorem dX2_read_41 : decode cX2_read 41 = .ok (.iload_n 1, 1) := by decide +kernel
theorem dX2_read_42 : decode cX2_read 42 = .ok (.ifCond .eq 14, 3) := by decide +kernel
theorem dX2_read_45 : decode cX2_read 45 = .ok (.aload_n 0, 1) := by decide +kernel
theorem dX2_read_46 : decode cX2_read 46 = .ok (.getfield 38, 3) := by decide +kernel
theorem dX2_read_49 : decode cX2_read 49 = .ok (.ifCond .ne 7, 3) := by decide +kernel
theorem dX2_read_52 : decode cX2_read 52 = .ok (.iconst 1, 1) := by decide +kernel
theorem dX2_read_53 : decode cX2_read 53 = .ok (.goto 4, 3) := by decide +kernel
theorem dX2_read_56 : decode cX2_read 56 = .ok (.iconst 0, 1) := by decide +kernel
theorem dX2_read_57 : decode cX2_read 57 = .ok (.istore_n 1, 1) := by decide +kernel
theorem dX2_read_58 : decode cX2_read 58 = .ok (.iload_n 1, 1) := by decide +kernel
theorem dX2_read_59 : decode cX2_read 59 = .ok (.ifCond .eq 16, 3) := by decide +kernel
theorem dX2_read_62 : decode cX2_read 62 = .ok (.aload_n 0, 1) := by decide +kernel
theorem dX2_read_63 : decode cX2_read 63 = .ok (.getfield 15, 3) := by decide +kernel
theorem dX2_read_66 : decode cX2_read 66 = .ok (.dup, 1) := by decide +kernel
theorem dX2_read_67 : decode cX2_read 67 = .ok (.getfield 41, 3) := by decide +kernel
theorem dX2_read_70 : decode cX2_read 70 = .ok (.iconst 1, 1) := by decide +kernel
theorem dX2_read_71 : decode cX2_read 71 = .ok (.iadd, 1) := by decide +kernel
theorem dX2_read_72 : decode cX2_read 72 = .ok (.putfield 41, 3) := by decide +kernel
theorem dX2_read_75 : decode cX2_read 75 = .ok (.aload_n 0, 1) := by decide +kernel
theorem dX2_read_76 : decode cX2_read 76 = .ok (.iconst 0, 1) := by decide +kernel
theorem dX2_read_77 : decode cX2_read 77 = .ok (.putfield 19, 3) := by decide +kernel
theorem dX2_read_80 : decode cX2_read 80 = .ok (.iload_n 1, 1) := by decide +kernel
theorem dX2_read_81 : decode cX2_read 81 = .ok (.ifCond .eq 7, 3) := by decide +kernel
theorem dX2_read_84 : decode cX2_read 84 = .ok (.iconst (-1), 1) := by decide +kernel
theorem dX2_read_85 : decode cX2_read 85 = .ok (.goto 7, 3) := by decide +kernel
theorem dX2_read_88 : decode cX2_read 88 = .ok (.aload_n 0, 1) := by decide +kernel
theorem dX2_read_89 : decode cX2_read 89 = .ok (.getfield 44, 3) := by decide +kernel
theorem dX2_read_92 : decode cX2_read 92 = .ok (.ireturn, 1) := by decide +kernel
theorem dX2_readPart_0 : decode cX2_readPart 0 = .ok (.aload_n 0, 1) := by decide +kernel
theorem dX2_readPart_1 : decode cX2_readPart 1 = .ok (.getfield 38, 3) := by decide +kernel
theorem dX2_readPart_4 : decode cX2_readPart 4 = .ok (.sipush 262, 3) := by decide +kernel
theorem dX2_readPart_7 : decode cX2_readPart 7 = .ok (.iload_n 1, 1) := by decide +kernel
theorem dX2_readPart_8 : decode cX2_readPart 8 = .ok (.iadd, 1) := by decide +kernel
theorem dX2_readPart_9 : decode cX2_readPart 9 = .ok (.if_icmp .eq 5, 3) := by decide +kernel
theorem dX2_readPart_12 : decode cX2_readPart 12 = .ok (.iconst 0, 1) := by decide +kernel
theorem dX2_readPart_13 : decode cX2_readPart 13 = .ok (.ireturn, 1) := by decide +kernel
theorem dX2_readPart_14 : decode cX2_readPart 14 = .ok (.aload_n 0, 1) := by decide +kernel
theorem dX2_readPart_15 : decode cX2_readPart 15 = .ok (.invokevirtual 31, 3) := by decide +kernel
theorem dX2_readPart_18 : decode cX2_readPart 18 = .ok (.aload_n 0, 1) := by decide +kernel
theorem dX2_readPart_19 : decode cX2_readPart 19 = .ok (.iconst 0, 1) := by decide +kernel
theorem dX2_readPart_20 : decode cX2_readPart 20 = .ok (.invokevirtual 47, 3) := by decide +kernel
theorem dX2_readPart_23 : decode cX2_readPart 23 = .ok (.ifCond .eq 12, 3) := by decide +kernel
theorem dX2_readPart_26 : decode cX2_readPart 26 = .ok (.aload_n 0, 1) := by decide +kernel
theorem dX2_readPart_27 : decode cX2_readPart 27 = .ok (.getfield 38, 3) := by decide +kernel
theorem dX2_readPart_30 : decode cX2_readPart 30 = .ok (.bipush 59, 2) := by decide +kernel
theorem dX2_readPart_32 : decode cX2_readPart 32 = .ok (.if_icmp .eq 5, 3) := by decide +kernel
theorem dX2_readPart_35 : decode cX2_readPart 35 = .ok (.iconst 0, 1) := by decide +kernel
theorem dX2_readPart_36 : decode cX2_readPart 36 = .ok (.ireturn, 1) := by decide +kernel
theorem dX2_readPart_37 : decode cX2_readPart 37 = .ok (.aload_n 0, 1) := by decide +kernel
theorem dX2_readPart_38 : decode cX2_readPart 38 = .ok (.invokevirtual 31, 3) := by decide +kernel
theorem dX2_readPart_41 : decode cX2_readPart 41 = .ok (.aload_n 0, 1) := by decide +kernel
theorem dX2_readPart_42 : decode cX2_readPart 42 = .ok (.getfield 15, 3) := by decide +kernel
theorem dX2_readPart_45 : decode cX2_readPart 45 = .ok (.iload_n 1, 1) := by decide +kernel
theorem dX2_readPart_46 : decode cX2_readPart 46 = .ok (.invokevirtual 50, 3) := by decide +kernel
theorem dX2_readPart_49 : decode cX2_readPart 49 = .ok (.iconst 1, 1) := by decide +kernel
theorem dX2_readPart_50 : decode cX2_readPart 50 = .ok (.ireturn, 1) := by decide +kernel
theorem dX2_readEither_0 : decode cX2_readEither 0 = .ok (.aload_n 0, 1) := by decide +kernel
theorem dX2_readEither_1 : decode cX2_readEither 1 = .ok (.iload_n 1, 1) := by decide +kernel
theorem dX2_readEither_2 : decode cX2_readEither 2 = .ok (.invokevirtual 54, 3) := by decide +kernel
theorem dX2_readEither_5 : decode cX2_readEither 5 = .ok (.istore_n 2, 1) := by decide +kernel
theorem dX2_readEither_6 : decode cX2_readEither 6 = .ok (.iconst 0, 1) := by decide +kernel
theorem dX2_readEither_7 : decode cX2_readEither 7 = .ok (.istore_n 3, 1) := by decide +kernel
theorem dX2_readEither_8 : decode cX2_readEither 8 = .ok (.iload_n 3, 1) := by decide +kernel
theorem dX2_readEither_9 : decode cX2_readEither 9 = .ok (.sipush 160, 3) := by decide +kernel
theorem dX2_readEither_12 : decode cX2_readEither 12 = .ok (.if_icmp .ge 43, 3) := by decide +kernel
theorem dX2_readEither_15 : decode cX2_readEither 15 = .ok (.iload_n 2, 1) := by decide +kernel
theorem dX2_readEither_16 : decode cX2_readEither 16 = .ok (.ifCond .eq 39, 3) := by decide +kernel
theorem dX2_readEither_19 : decode cX2_readEither 19 = .ok (.aload_n 0, 1) := by decide +kernel
theorem dX2_readEither_20 : decode cX2_readEither 20 = .ok (.getfield 38, 3) := by decide +kernel
theorem dX2_readEither_23 : decode cX2_readEither 23 = .ok (.sipush 265, 3) := by decide +kernel
theorem dX2_readEither_26 : decode cX2_readEither 26 = .ok (.if_icmp .ne 29, 3) := by decide +kernel
theorem dX2_readEither_29 : decode cX2_readEither 29 = .ok (.aload_n 0, 1) := by decide +kernel
theorem dX2_readEither_30 : decode cX2_readEither 30 = .ok (.invokevirtual 31, 3) := by decide +kernel
theorem dX2_readEither_33 : decode cX2_readEither 33 = .ok (.aload_n 0, 1) := by decide +kernel
theorem dX2_readEither_34 : decode cX2_readEither 34 = .ok (.iload_n 1, 1) := by decide +kernel
theorem dX2_readEither_35 : decode cX2_readEither 35 = .ok (.invokevirtual 54, 3) := by decide +kernel
theorem dX2_readEither_38 : decode cX2_readEither 38 = .ok (.istore_n 2, 1) := by decide +kernel
theorem dX2_readEither_39 : decode cX2_readEither 39 = .ok (.aload_n 0, 1) := by decide +kernel
theorem dX2_readEither_40 : decode cX2_readEither 40 = .ok (.getfield 15, 3) := by decide +kernel
theorem dX2_readEither_43 : decode cX2_readEither 43 = .ok (.sipush 20265, 3) := by decide +kernel
theorem dX2_readEither_46 : decode cX2_readEither 46 = .ok (.invokevirtual 57, 3) := by decide +kernel
theorem dX2_readEither_49 : decode cX2_readEither 49 = .ok (.iinc 3 1, 3) := by decide +kernel
theorem dX2_readEither_52 : decode cX2_readEither 52 = .ok (.goto (-44), 3) := by decide +kernel
theorem dX2_readEither_55 : decode cX2_readEither 55 = .ok (.iload_n 2, 1) := by decide +kernel
theorem dX2_readEither_56 : decode cX2_readEither 56 = .ok (.ireturn, 1) := by decide +kernel
theorem dX2_readBoth_0 : decode cX2_readBoth 0 = .ok (.aload_n 0, 1) := by decide +kernel
theorem dX2_readBoth_1 : decode cX2_readBoth 1 = .ok (.iload_n 1, 1) := by decide +kernel
theorem dX2_readBoth_2 : decode cX2_readBoth 2 = .ok (.invokevirtual 60, 3) := by decide +kernel
theorem dX2_readBoth_5 : decode cX2_readBoth 5 = .ok (.istore_n 2, 1) := by decide +kernel
theorem dX2_readBoth_6 : decode cX2_readBoth 6 = .ok (.iconst 0, 1) := by decide +kernel
theorem dX2_readBoth_7 : decode cX2_readBoth 7 = .ok (.istore_n 3, 1) := by decide +kernel
theorem dX2_readBoth_8 : decode cX2_readBoth 8 = .ok (.iload_n 3, 1) := by decide +kernel
theorem dX2_readBoth_9 : decode cX2_readBoth 9 = .ok (.sipush 160, 3) := by decide +kernel
theorem dX2_readBoth_12 : decode cX2_readBoth 12 = .ok (.if_icmp .ge 43, 3) := by decide +kernel
theorem dX2_readBoth_15 : decode cX2_readBoth 15 = .ok (.iload_n 2, 1) := by decide +kernel
theorem dX2_readBoth_16 : decode cX2_readBoth 16 = .ok (.ifCond .eq 39, 3) := by decide +kernel
theorem dX2_readBoth_19 : decode cX2_readBoth 19 = .ok (.aload_n 0, 1) := by decide +kernel
theorem dX2_readBoth_20 : decode cX2_readBoth 20 = .ok (.getfield 38, 3) := by decide +kernel
theorem dX2_readBoth_23 : decode cX2_readBoth 23 = .ok (.sipush 266, 3) := by decide +kernel
theorem dX2_readBoth_26 : decode cX2_readBoth 26 = .ok (.if_icmp .ne 29, 3) := by decide +kernel
theorem dX2_readBoth_29 : decode cX2_readBoth 29 = .ok (.aload_n 0, 1) := by decide +kernel
theorem dX2_readBoth_30 : decode cX2_readBoth 30 = .ok (.invokevirtual 31, 3) := by decide +kernel
theorem dX2_readBoth_33 : decode cX2_readBoth 33 = .ok (.aload_n 0, 1) := by decide +kernel
theorem dX2_readBoth_34 : decode cX2_readBoth 34 = .ok (.iload_n 1, 1) := by decide +kernel
theorem dX2_readBoth_35 : decode cX2_readBoth 35 = .ok (.invokevirtual 60, 3) := by decide +kernel
theorem dX2_readBoth_38 : decode cX2_readBoth 38 = .ok (.istore_n 2, 1) := by decide +kernel
theorem dX2_readBoth_39 : decode cX2_readBoth 39 = .ok (.aload_n 0, 1) := by decide +kernel
theorem dX2_readBoth_40 : decode cX2_readBoth 40 = .ok (.getfield 15, 3) := by decide +kernel
theorem dX2_readBoth_43 : decode cX2_readBoth 43 = .ok (.sipush 20266, 3) := by decide +kernel
theorem dX2_readBoth_46 : decode cX2_readBoth 46 = .ok (.invokevirtual 57, 3) := by decide +kernel
theorem dX2_readBoth_49 : decode cX2_readBoth 49 = .ok (.iinc 3 1, 3) := by decide +kernel
theorem dX2_readBoth_52 : decode cX2_readBoth 52 = .ok (.goto (-44), 3) := by decide +kernel
theorem dX2_readBoth_55 : decode cX2_readBoth 55 = .ok (.iload_n 2, 1) := by decide +kernel
theorem dX2_readBoth_56 : decode cX2_readBoth 56 = .ok (.ireturn, 1) := by decide +kernel
theorem dX2_readDenial_0 : decode cX2_readDenial 0 = .ok (.aload_n 0, 1) := by decide +kernel
theorem dX2_readDenial_1 : decode cX2_readDenial 1 = .ok (.getfield 38, 3) := by decide +kernel
theorem dX2_readDenial_4 : decode cX2_readDenial 4 = .ok (.sipush 267, 3) := by decide +kernel
theorem dX2_readDenial_7 : decode cX2_readDenial 7 = .ok (.if_icmp .eq 9, 3) := by decide +kernel
theorem dX2_readDenial_10 : decode cX2_readDenial 10 = .ok (.aload_n 0, 1) := by decide +kernel
theorem dX2_readDenial_11 : decode cX2_readDenial 11 = .ok (.iload_n 1, 1) := by decide +kernel
theorem dX2_readDenial_12 : decode cX2_readDenial 12 = .ok (.invokevirtual 63, 3) := by decide +kernel
theorem dX2_readDenial_15 : decode cX2_readDenial 15 = .ok (.ireturn, 1) := by decide +kernel
theorem dX2_readDenial_16 : decode cX2_readDenial 16 = .ok (.iload_n 1, 1) := by decide +kernel
theorem dX2_readDenial_17 : decode cX2_readDenial 17 = .ok (.iconst 5, 1) := by decide +kernel
theorem dX2_readDenial_18 : decode cX2_readDenial 18 = .ok (.if_icmp .lt 5, 3) := by decide +kernel
theorem dX2_readDenial_21 : decode cX2_readDenial 21 = .ok (.iconst 0, 1) := by decide +kernel
theorem dX2_readDenial_22 : decode cX2_readDenial 22 = .ok (.ireturn, 1) := by decide +kernel
theorem dX2_readDenial_23 : decode cX2_readDenial 23 = .ok (.aload_n 0, 1) := by decide +kernel
theorem dX2_readDenial_24 : decode cX2_readDenial 24 = .ok (.invokevirtual 31, 3) := by decide +kernel
theorem dX2_readDenial_27 : decode cX2_readDenial 27 = .ok (.aload_n 0, 1) := by decide +kernel
theorem dX2_readDenial_28 : decode cX2_readDenial 28 = .ok (.iload_n 1, 1) := by decide +kernel
theorem dX2_readDenial_29 : decode cX2_readDenial 29 = .ok (.iconst 1, 1) := by decide +kernel
theorem dX2_readDenial_30 : decode cX2_readDenial 30 = .ok (.iadd, 1) := by decide +kernel
theorem dX2_readDenial_31 : decode cX2_readDenial 31 = .ok (.invokevirtual 60, 3) := by decide +kernel
theorem dX2_readDenial_34 : decode cX2_readDenial 34 = .ok (.istore_n 2, 1) := by decide +kernel
theorem dX2_readDenial_35 : decode cX2_readDenial 35 = .ok (.aload_n 0, 1) := by decide +kernel
theorem dX2_readDenial_36 : decode cX2_readDenial 36 = .ok (.getfield 15, 3) := by decide +kernel
theorem dX2_readDenial_39 : decode cX2_readDenial 39 = .ok (.sipush 20267, 3) := by decide +kernel
theorem dX2_readDenial_42 : decode cX2_readDenial 42 = .ok (.invokevirtual 57, 3) := by decide +kernel
theorem dX2_readDenial_45 : decode cX2_readDenial 45 = .ok (.iload_n 2, 1) := by decide +kernel
theorem dX2_readDenial_46 : decode cX2_readDenial 46 = .ok (.ireturn, 1) := by decide +kernel
theorem dX2_readComparison_0 : decode cX2_readComparison 0 = .ok (.aload_n 0, 1) := by decide +kernel
theorem dX2_readComparison_1 : decode cX2_readComparison 1 = .ok (.iload_n 1, 1) := by decide +kernel
theorem dX2_readComparison_2 : decode cX2_readComparison 2 = .ok (.invokevirtual 66, 3) := by decide +kernel
theorem dX2_readComparison_5 : decode cX2_readComparison 5 = .ok (.istore_n 2, 1) := by decide +kernel
theorem dX2_readComparison_6 : decode cX2_readComparison 6 = .ok (.iload_n 2, 1) := by decide +kernel
theorem dX2_readComparison_7 : decode cX2_readComparison 7 = .ok (.ifCond .eq 48, 3) := by decide +kernel
theorem dX2_readComparison_10 : decode cX2_readComparison 10 = .ok (.aload_n 0, 1) := by decide +kernel
theorem dX2_readComparison_11 : decode cX2_readComparison 11 = .ok (.getfield 38, 3) := by decide +kernel
theorem dX2_readComparison_14 : decode cX2_readComparison 14 = .ok (.bipush 60, 2) := by decide +kernel
theorem dX2_readComparison_16 : decode cX2_readComparison 16 = .ok (.if_icmp .eq 12, 3) := by decide +kernel
theorem dX2_readComparison_19 : decode cX2_readComparison 19 = .ok (.aload_n 0, 1) := by decide +kernel
theorem dX2_readComparison_20 : decode cX2_readComparison 20 = .ok (.getfield 38, 3) := by decide +kernel
theorem dX2_readComparison_23 : decode cX2_readComparison 23 = .ok (.bipush 61, 2) := by decide +kernel
theorem dX2_readComparison_25 : decode cX2_readComparison 25 = .ok (.if_icmp .ne 30, 3) := by decide +kernel
theorem dX2_readComparison_28 : decode cX2_readComparison 28 = .ok (.aload_n 0, 1) := by decide +kernel
theorem dX2_readComparison_29 : decode cX2_readComparison 29 = .ok (.getfield 38, 3) := by decide +kernel
theorem dX2_readComparison_32 : decode cX2_readComparison 32 = .ok (.istore_n 3, 1) := by decide +kernel
theorem dX2_readComparison_33 : decode cX2_readComparison 33 = .ok (.aload_n 0, 1) := by decide +kernel
theorem dX2_readComparison_34 : decode cX2_readComparison 34 = .ok (.invokevirtual 31, 3) := by decide +kernel
theorem dX2_readComparison_37 : decode cX2_readComparison 37 = .ok (.aload_n 0, 1) := by decide +kernel
theorem dX2_readComparison_38 : decode cX2_readComparison 38 = .ok (.iload_n 1, 1) := by decide +kernel
theorem dX2_readComparison_39 : decode cX2_readComparison 39 = .ok (.invokevirtual 66, 3) := by decide +kernel
theorem dX2_readComparison_42 : decode cX2_readComparison 42 = .ok (.istore_n 2, 1) := by decide +kernel
theorem dX2_readComparison_43 : decode cX2_readComparison 43 = .ok (.aload_n 0, 1) := by decide +kernel
theorem dX2_readComparison_44 : decode cX2_readComparison 44 = .ok (.getfield 15, 3) := by decide +kernel
theorem dX2_readComparison_47 : decode cX2_readComparison 47 = .ok (.sipush 20000, 3) := by decide +kernel
theorem dX2_readComparison_50 : decode cX2_readComparison 50 = .ok (.iload_n 3, 1) := by decide +kernel
theorem dX2_readComparison_51 : decode cX2_readComparison 51 = .ok (.iadd, 1) := by decide +kernel
theorem dX2_readComparison_52 : decode cX2_readComparison 52 = .ok (.invokevirtual 57, 3) := by decide +kernel
theorem dX2_readComparison_55 : decode cX2_readComparison 55 = .ok (.iload_n 2, 1) := by decide +kernel
theorem dX2_readComparison_56 : decode cX2_readComparison 56 = .ok (.ireturn, 1) := by decide +kernel
theorem dX2_readSum_0 : decode cX2_readSum 0 = .ok (.aload_n 0, 1) := by decide +kernel
theorem dX2_readSum_1 : decode cX2_readSum 1 = .ok (.iload_n 1, 1) := by decide +kernel
theorem dX2_readSum_2 : decode cX2_readSum 2 = .ok (.invokevirtual 69, 3) := by decide +kernel
theorem dX2_readSum_5 : decode cX2_readSum 5 = .ok (.istore_n 2, 1) := by decide +kernel
theorem dX2_readSum_6 : decode cX2_readSum 6 = .ok (.iconst 0, 1) := by decide +kernel
theorem dX2_readSum_7 : decode cX2_readSum 7 = .ok (.istore_n 3, 1) := by decide +kernel
theorem dX2_readSum_8 : decode cX2_readSum 8 = .ok (.iload_n 3, 1) := by decide +kernel
theorem dX2_readSum_9 : decode cX2_readSum 9 = .ok (.sipush 160, 3) := by decide +kernel
theorem dX2_readSum_12 : decode cX2_readSum 12 = .ok (.if_icmp .ge 60, 3) := by decide +kernel
theorem dX2_readSum_15 : decode cX2_readSum 15 = .ok (.iload_n 2, 1) := by decide +kernel
theorem dX2_readSum_16 : decode cX2_readSum 16 = .ok (.ifCond .eq 56, 3) := by decide +kernel
theorem dX2_readSum_19 : decode cX2_readSum 19 = .ok (.aload_n 0, 1) := by decide +kernel
theorem dX2_readSum_20 : decode cX2_readSum 20 = .ok (.getfield 38, 3) := by decide +kernel
theorem dX2_readSum_23 : decode cX2_readSum 23 = .ok (.bipush 43, 2) := by decide +kernel
theorem dX2_readSum_25 : decode cX2_readSum 25 = .ok (.if_icmp .eq 12, 3) := by decide +kernel
theorem dX2_readSum_28 : decode cX2_readSum 28 = .ok (.aload_n 0, 1) := by decide +kernel
theorem dX2_readSum_29 : decode cX2_readSum 29 = .ok (.getfield 38, 3) := by decide +kernel
theorem dX2_readSum_32 : decode cX2_readSum 32 = .ok (.bipush 45, 2) := by decide +kernel
theorem dX2_readSum_34 : decode cX2_readSum 34 = .ok (.if_icmp .ne 38, 3) := by decide +kernel
theorem dX2_readSum_37 : decode cX2_readSum 37 = .ok (.aload_n 0, 1) := by decide +kernel
theorem dX2_readSum_38 : decode cX2_readSum 38 = .ok (.getfield 38, 3) := by decide +kernel
theorem dX2_readSum_41 : decode cX2_readSum 41 = .ok (.istore 4, 2) := by decide +kernel
theorem dX2_readSum_43 : decode cX2_readSum 43 = .ok (.aload_n 0, 1) := by decide +kernel
theorem dX2_readSum_44 : decode cX2_readSum 44 = .ok (.invokevirtual 31, 3) := by decide +kernel
theorem dX2_readSum_47 : decode cX2_readSum 47 = .ok (.aload_n 0, 1) := by decide +kernel
theorem dX2_readSum_48 : decode cX2_readSum 48 = .ok (.iload_n 1, 1) := by decide +kernel
theorem dX2_readSum_49 : decode cX2_readSum 49 = .ok (.invokevirtual 69, 3) := by decide +kernel
theorem dX2_readSum_52 : decode cX2_readSum 52 = .ok (.istore_n 2, 1) := by decide +kernel
theorem dX2_readSum_53 : decode cX2_readSum 53 = .ok (.aload_n 0, 1) := by decide +kernel
theorem dX2_readSum_54 : decode cX2_readSum 54 = .ok (.getfield 15, 3) := by decide +kernel
theorem dX2_readSum_57 : decode cX2_readSum 57 = .ok (.sipush 20000, 3) := by decide +kernel
theorem dX2_readSum_60 : decode cX2_readSum 60 = .ok (.iload 4, 2) := by decide +kernel
theorem dX2_readSum_62 : decode cX2_readSum 62 = .ok (.iadd, 1) := by decide +kernel
theorem dX2_readSum_63 : decode cX2_readSum 63 = .ok (.invokevirtual 57, 3) := by decide +kernel
theorem dX2_readSum_66 : decode cX2_readSum 66 = .ok (.iinc 3 1, 3) := by decide +kernel
theorem dX2_readSum_69 : decode cX2_readSum 69 = .ok (.goto (-61), 3) := by decide +kernel
theorem dX2_readSum_72 : decode cX2_readSum 72 = .ok (.iload_n 2, 1) := by decide +kernel
theorem dX2_readSum_73 : decode cX2_readSum 73 = .ok (.ireturn, 1) := by decide +kernel
theorem dX2_readTerm_0 : decode cX2_readTerm 0 = .ok (.aload_n 0, 1) := by decide +kernel
theorem dX2_readTerm_1 : decode cX2_readTerm 1 = .ok (.iload_n 1, 1) := by decide +kernel
theorem dX2_readTerm_2 : decode cX2_readTerm 2 = .ok (.invokevirtual 72, 3) := by decide +kernel
theorem dX2_readTerm_5 : decode cX2_readTerm 5 = .ok (.istore_n 2, 1) := by decide +kernel
theorem dX2_readTerm_6 : decode cX2_readTerm 6 = .ok (.iconst 0, 1) := by decide +kernel
theorem dX2_readTerm_7 : decode cX2_readTerm 7 = .ok (.istore_n 3, 1) := by decide +kernel
theorem dX2_readTerm_8 : decode cX2_readTerm 8 = .ok (.iload_n 3, 1) := by decide +kernel
theorem dX2_readTerm_9 : decode cX2_readTerm 9 = .ok (.sipush 160, 3) := by decide +kernel
theorem dX2_readTerm_12 : decode cX2_readTerm 12 = .ok (.if_icmp .ge 42, 3) := by decide +kernel
theorem dX2_readTerm_15 : decode cX2_readTerm 15 = .ok (.iload_n 2, 1) := by decide +kernel
theorem dX2_readTerm_16 : decode cX2_readTerm 16 = .ok (.ifCond .eq 38, 3) := by decide +kernel
theorem dX2_readTerm_19 : decode cX2_readTerm 19 = .ok (.aload_n 0, 1) := by decide +kernel
theorem dX2_readTerm_20 : decode cX2_readTerm 20 = .ok (.getfield 38, 3) := by decide +kernel
theorem dX2_readTerm_23 : decode cX2_readTerm 23 = .ok (.bipush 42, 2) := by decide +kernel
theorem dX2_readTerm_25 : decode cX2_readTerm 25 = .ok (.if_icmp .ne 29, 3) := by decide +kernel
theorem dX2_readTerm_28 : decode cX2_readTerm 28 = .ok (.aload_n 0, 1) := by decide +kernel
theorem dX2_readTerm_29 : decode cX2_readTerm 29 = .ok (.invokevirtual 31, 3) := by decide +kernel
theorem dX2_readTerm_32 : decode cX2_readTerm 32 = .ok (.aload_n 0, 1) := by decide +kernel
theorem dX2_readTerm_33 : decode cX2_readTerm 33 = .ok (.iload_n 1, 1) := by decide +kernel
theorem dX2_readTerm_34 : decode cX2_readTerm 34 = .ok (.invokevirtual 72, 3) := by decide +kernel
theorem dX2_readTerm_37 : decode cX2_readTerm 37 = .ok (.istore_n 2, 1) := by decide +kernel
theorem dX2_readTerm_38 : decode cX2_readTerm 38 = .ok (.aload_n 0, 1) := by decide +kernel
theorem dX2_readTerm_39 : decode cX2_readTerm 39 = .ok (.getfield 15, 3) := by decide +kernel
theorem dX2_readTerm_42 : decode cX2_readTerm 42 = .ok (.sipush 20042, 3) := by decide +kernel
theorem dX2_readTerm_45 : decode cX2_readTerm 45 = .ok (.invokevirtual 57, 3) := by decide +kernel
theorem dX2_readTerm_48 : decode cX2_readTerm 48 = .ok (.iinc 3 1, 3) := by decide +kernel
theorem dX2_readTerm_51 : decode cX2_readTerm 51 = .ok (.goto (-43), 3) := by decide +kernel
theorem dX2_readTerm_54 : decode cX2_readTerm 54 = .ok (.iload_n 2, 1) := by decide +kernel
theorem dX2_readTerm_55 : decode cX2_readTerm 55 = .ok (.ireturn, 1) := by decide +kernel
theorem dX2_readOne_0 : decode cX2_readOne 0 = .ok (.aload_n 0, 1) := by decide +kernel
theorem dX2_readOne_1 : decode cX2_readOne 1 = .ok (.getfield 38, 3) := by decide +kernel
theorem dX2_readOne_4 : decode cX2_readOne 4 = .ok (.iconst 2, 1) := by decide +kernel
theorem dX2_readOne_5 : decode cX2_readOne 5 = .ok (.if_icmp .ne 20, 3) := by decide +kernel
theorem dX2_readOne_8 : decode cX2_readOne 8 = .ok (.aload_n 0, 1) := by decide +kernel
theorem dX2_readOne_9 : decode cX2_readOne 9 = .ok (.getfield 15, 3) := by decide +kernel
theorem dX2_readOne_12 : decode cX2_readOne 12 = .ok (.aload_n 0, 1) := by decide +kernel
theorem dX2_readOne_13 : decode cX2_readOne 13 = .ok (.getfield 75, 3) := by decide +kernel
theorem dX2_readOne_16 : decode cX2_readOne 16 = .ok (.invokevirtual 57, 3) := by decide +kernel
theorem dX2_readOne_19 : decode cX2_readOne 19 = .ok (.aload_n 0, 1) := by decide +kernel
theorem dX2_readOne_20 : decode cX2_readOne 20 = .ok (.invokevirtual 31, 3) := by decide +kernel
theorem dX2_readOne_23 : decode cX2_readOne 23 = .ok (.iconst 1, 1) := by decide +kernel
theorem dX2_readOne_24 : decode cX2_readOne 24 = .ok (.ireturn, 1) := by decide +kernel
theorem dX2_readOne_25 : decode cX2_readOne 25 = .ok (.aload_n 0, 1) := by decide +kernel
theorem dX2_readOne_26 : decode cX2_readOne 26 = .ok (.getfield 38, 3) := by decide +kernel
theorem dX2_readOne_29 : decode cX2_readOne 29 = .ok (.sipush 256, 3) := by decide +kernel
theorem dX2_readOne_32 : decode cX2_readOne 32 = .ok (.if_icmp .lt 38, 3) := by decide +kernel
theorem dX2_readOne_35 : decode cX2_readOne 35 = .ok (.aload_n 0, 1) := by decide +kernel
theorem dX2_readOne_36 : decode cX2_readOne 36 = .ok (.getfield 38, 3) := by decide +kernel
theorem dX2_readOne_39 : decode cX2_readOne 39 = .ok (.sipush 262, 3) := by decide +kernel
theorem dX2_readOne_42 : decode cX2_readOne 42 = .ok (.if_icmp .ge 28, 3) := by decide +kernel
theorem dX2_readOne_45 : decode cX2_readOne 45 = .ok (.aload_n 0, 1) := by decide +kernel
theorem dX2_readOne_46 : decode cX2_readOne 46 = .ok (.getfield 15, 3) := by decide +kernel
theorem dX2_readOne_49 : decode cX2_readOne 49 = .ok (.sipush 10000, 3) := by decide +kernel
theorem dX2_readOne_52 : decode cX2_readOne 52 = .ok (.aload_n 0, 1) := by decide +kernel
theorem dX2_readOne_53 : decode cX2_readOne 53 = .ok (.getfield 38, 3) := by decide +kernel
theorem dX2_readOne_56 : decode cX2_readOne 56 = .ok (.iadd, 1) := by decide +kernel
theorem dX2_readOne_57 : decode cX2_readOne 57 = .ok (.sipush 256, 3) := by decide +kernel
theorem dX2_readOne_60 : decode cX2_readOne 60 = .ok (.isub, 1) := by decide +kernel
theorem dX2_readOne_61 : decode cX2_readOne 61 = .ok (.invokevirtual 57, 3) := by decide +kernel
theorem dX2_readOne_64 : decode cX2_readOne 64 = .ok (.aload_n 0, 1) := by decide +kernel
theorem dX2_readOne_65 : decode cX2_readOne 65 = .ok (.invokevirtual 31, 3) := by decide +kernel
theorem dX2_readOne_68 : decode cX2_readOne 68 = .ok (.iconst 1, 1) := by decide +kernel
theorem dX2_readOne_69 : decode cX2_readOne 69 = .ok (.ireturn, 1) := by decide +kernel
theorem dX2_readOne_70 : decode cX2_readOne 70 = .ok (.iload_n 1, 1) := by decide +kernel
theorem dX2_readOne_71 : decode cX2_readOne 71 = .ok (.iconst 5, 1) := by decide +kernel
theorem dX2_readOne_72 : decode cX2_readOne 72 = .ok (.if_icmp .ge 21, 3) := by decide +kernel
theorem dX2_readOne_75 : decode cX2_readOne 75 = .ok (.aload_n 0, 1) := by decide +kernel
theorem dX2_readOne_76 : decode cX2_readOne 76 = .ok (.getfield 38, 3) := by decide +kernel
theorem dX2_readOne_79 : decode cX2_readOne 79 = .ok (.bipush 45, 2) := by decide +kernel
theorem dX2_readOne_81 : decode cX2_readOne 81 = .ok (.if_icmp .eq 14, 3) := by decide +kernel
theorem dX2_readOne_84 : decode cX2_readOne 84 = .ok (.aload_n 0, 1) := by decide +kernel
theorem dX2_readOne_85 : decode cX2_readOne 85 = .ok (.getfield 38, 3) := by decide +kernel
theorem dX2_readOne_88 : decode cX2_readOne 88 = .ok (.bipush 40, 2) := by decide +kernel
theorem dX2_readOne_90 : decode cX2_readOne 90 = .ok (.if_icmp .eq 5, 3) := by decide +kernel
theorem dX2_readOne_93 : decode cX2_readOne 93 = .ok (.iconst 0, 1) := by decide +kernel
theorem dX2_readOne_94 : decode cX2_readOne 94 = .ok (.ireturn, 1) := by decide +kernel
theorem dX2_readOne_95 : decode cX2_readOne 95 = .ok (.aload_n 0, 1) := by decide +kernel
theorem dX2_readOne_96 : decode cX2_readOne 96 = .ok (.getfield 38, 3) := by decide +kernel
theorem dX2_readOne_99 : decode cX2_readOne 99 = .ok (.bipush 45, 2) := by decide +kernel
theorem dX2_readOne_101 : decode cX2_readOne 101 = .ok (.if_icmp .ne 13, 3) := by decide +kernel
theorem dX2_readOne_104 : decode cX2_readOne 104 = .ok (.aload_n 0, 1) := by decide +kernel
theorem dX2_readOne_105 : decode cX2_readOne 105 = .ok (.iload_n 1, 1) := by decide +kernel
theorem dX2_readOne_106 : decode cX2_readOne 106 = .ok (.iconst 1, 1) := by decide +kernel
theorem dX2_readOne_107 : decode cX2_readOne 107 = .ok (.iadd, 1) := by decide +kernel
theorem dX2_readOne_108 : decode cX2_readOne 108 = .ok (.invokevirtual 78, 3) := by decide +kernel
theorem dX2_readOne_111 : decode cX2_readOne 111 = .ok (.goto 10, 3) := by decide +kernel
theorem dX2_readOne_114 : decode cX2_readOne 114 = .ok (.aload_n 0, 1) := by decide +kernel
theorem dX2_readOne_115 : decode cX2_readOne 115 = .ok (.iload_n 1, 1) := by decide +kernel
theorem dX2_readOne_116 : decode cX2_readOne 116 = .ok (.iconst 1, 1) := by decide +kernel
theorem dX2_readOne_117 : decode cX2_readOne 117 = .ok (.iadd, 1) := by decide +kernel
theorem dX2_readOne_118 : decode cX2_readOne 118 = .ok (.invokevirtual 81, 3) := by decide +kernel
theorem dX2_readOne_121 : decode cX2_readOne 121 = .ok (.ireturn, 1) := by decide +kernel
theorem dX2_readNegation_0 : decode cX2_readNegation 0 = .ok (.aload_n 0, 1) := by decide +kernel
theorem dX2_readNegation_1 : decode cX2_readNegation 1 = .ok (.invokevirtual 31, 3) := by decide +kernel
theorem dX2_readNegation_4 : decode cX2_readNegation 4 = .ok (.aload_n 0, 1) := by decide +kernel
theorem dX2_readNegation_5 : decode cX2_readNegation 5 = .ok (.iload_n 1, 1) := by decide +kernel
theorem dX2_readNegation_6 : decode cX2_readNegation 6 = .ok (.invokevirtual 72, 3) := by decide +kernel
theorem dX2_readNegation_9 : decode cX2_readNegation 9 = .ok (.istore_n 2, 1) := by decide +kernel
theorem dX2_readNegation_10 : decode cX2_readNegation 10 = .ok (.aload_n 0, 1) := by decide +kernel
theorem dX2_readNegation_11 : decode cX2_readNegation 11 = .ok (.getfield 15, 3) := by decide +kernel
theorem dX2_readNegation_14 : decode cX2_readNegation 14 = .ok (.sipush 20003, 3) := by decide +kernel
theorem dX2_readNegation_17 : decode cX2_readNegation 17 = .ok (.invokevirtual 57, 3) := by decide +kernel
theorem dX2_readNegation_20 : decode cX2_readNegation 20 = .ok (.iload_n 2, 1) := by decide +kernel
theorem dX2_readNegation_21 : decode cX2_readNegation 21 = .ok (.ireturn, 1) := by decide +kernel
theorem dX2_readBrackets_0 : decode cX2_readBrackets 0 = .ok (.aload_n 0, 1) := by decide +kernel
theorem dX2_readBrackets_1 : decode cX2_readBrackets 1 = .ok (.invokevirtual 31, 3) := by decide +kernel
theorem dX2_readBrackets_4 : decode cX2_readBrackets 4 = .ok (.aload_n 0, 1) := by decide +kernel
theorem dX2_readBrackets_5 : decode cX2_readBrackets 5 = .ok (.iload_n 1, 1) := by decide +kernel
theorem dX2_readBrackets_6 : decode cX2_readBrackets 6 = .ok (.invokevirtual 47, 3) := by decide +kernel
theorem dX2_readBrackets_9 : decode cX2_readBrackets 9 = .ok (.ifCond .eq 12, 3) := by decide +kernel
theorem dX2_readBrackets_12 : decode cX2_readBrackets 12 = .ok (.aload_n 0, 1) := by decide +kernel
theorem dX2_readBrackets_13 : decode cX2_readBrackets 13 = .ok (.getfield 38, 3) := by decide +kernel
theorem dX2_readBrackets_16 : decode cX2_readBrackets 16 = .ok (.bipush 41, 2) := by decide +kernel
theorem dX2_readBrackets_18 : decode cX2_readBrackets 18 = .ok (.if_icmp .eq 5, 3) := by decide +kernel
theorem dX2_readBrackets_21 : decode cX2_readBrackets 21 = .ok (.iconst 0, 1) := by decide +kernel
theorem dX2_readBrackets_22 : decode cX2_readBrackets 22 = .ok (.ireturn, 1) := by decide +kernel
theorem dX2_readBrackets_23 : decode cX2_readBrackets 23 = .ok (.aload_n 0, 1) := by decide +kernel
theorem dX2_readBrackets_24 : decode cX2_readBrackets 24 = .ok (.invokevirtual 31, 3) := by decide +kernel
theorem dX2_readBrackets_27 : decode cX2_readBrackets 27 = .ok (.iconst 1, 1) := by decide +kernel
theorem dX2_readBrackets_28 : decode cX2_readBrackets 28 = .ok (.ireturn, 1) := by decide +kernel
theorem dX2_advance_0 : decode cX2_advance 0 = .ok (.iconst 0, 1) := by decide +kernel
theorem dX2_advance_1 : decode cX2_advance 1 = .ok (.istore_n 1, 1) := by decide +kernel
theorem dX2_advance_2 : decode cX2_advance 2 = .ok (.iload_n 1, 1) := by decide +kernel
theorem dX2_advance_3 : decode cX2_advance 3 = .ok (.sipush 160, 3) := by decide +kernel
theorem dX2_advance_6 : decode cX2_advance 6 = .ok (.if_icmp .ge 45, 3) := by decide +kernel
theorem dX2_advance_9 : decode cX2_advance 9 = .ok (.aload_n 0, 1) := by decide +kernel
theorem dX2_advance_10 : decode cX2_advance 10 = .ok (.aload_n 0, 1) := by decide +kernel
theorem dX2_advance_11 : decode cX2_advance 11 = .ok (.getfield 23, 3) := by decide +kernel
theorem dX2_advance_14 : decode cX2_advance 14 = .ok (.invokevirtual 84, 3) := by decide +kernel
theorem dX2_advance_17 : decode cX2_advance 17 = .ok (.bipush 32, 2) := by decide +kernel
theorem dX2_advance_19 : decode cX2_advance 19 = .ok (.if_icmp .eq 16, 3) := by decide +kernel
theorem dX2_advance_22 : decode cX2_advance 22 = .ok (.aload_n 0, 1) := by decide +kernel
theorem dX2_advance_23 : decode cX2_advance 23 = .ok (.aload_n 0, 1) := by decide +kernel
theorem dX2_advance_24 : decode cX2_advance 24 = .ok (.getfield 23, 3) := by decide +kernel
theorem dX2_advance_27 : decode cX2_advance 27 = .ok (.invokevirtual 84, 3) := by decide +kernel
theorem dX2_advance_30 : decode cX2_advance 30 = .ok (.bipush 10, 2) := by decide +kernel
theorem dX2_advance_32 : decode cX2_advance 32 = .ok (.if_icmp .ne 19, 3) := by decide +kernel
theorem dX2_advance_35 : decode cX2_advance 35 = .ok (.aload_n 0, 1) := by decide +kernel
theorem dX2_advance_36 : decode cX2_advance 36 = .ok (.dup, 1) := by decide +kernel
theorem dX2_advance_37 : decode cX2_advance 37 = .ok (.getfield 23, 3) := by decide +kernel
theorem dX2_advance_40 : decode cX2_advance 40 = .ok (.iconst 1, 1) := by decide +kernel
theorem dX2_advance_41 : decode cX2_advance 41 = .ok (.iadd, 1) := by decide +kernel
theorem dX2_advance_42 : decode cX2_advance 42 = .ok (.putfield 23, 3) := by decide +kernel
theorem dX2_advance_45 : decode cX2_advance 45 = .ok (.iinc 1 1, 3) := by decide +kernel
theorem dX2_advance_48 : decode cX2_advance 48 = .ok (.goto (-46), 3) := by decide +kernel
theorem dX2_advance_51 : decode cX2_advance 51 = .ok (.aload_n 0, 1) := by decide +kernel
theorem dX2_advance_52 : decode cX2_advance 52 = .ok (.aload_n 0, 1) := by decide +kernel
theorem dX2_advance_53 : decode cX2_advance 53 = .ok (.getfield 23, 3) := by decide +kernel
theorem dX2_advance_56 : decode cX2_advance 56 = .ok (.putfield 44, 3) := by decide +kernel
theorem dX2_advance_59 : decode cX2_advance 59 = .ok (.aload_n 0, 1) := by decide +kernel
theorem dX2_advance_60 : decode cX2_advance 60 = .ok (.aload_n 0, 1) := by decide +kernel
theorem dX2_advance_61 : decode cX2_advance 61 = .ok (.getfield 23, 3) := by decide +kernel
theorem dX2_advance_64 : decode cX2_advance 64 = .ok (.invokevirtual 84, 3) := by decide +kernel
theorem dX2_advance_67 : decode cX2_advance 67 = .ok (.istore_n 1, 1) := by decide +kernel
theorem dX2_advance_68 : decode cX2_advance 68 = .ok (.iload_n 1, 1) := by decide +kernel
theorem dX2_advance_69 : decode cX2_advance 69 = .ok (.iconst (-1), 1) := by decide +kernel
theorem dX2_advance_70 : decode cX2_advance 70 = .ok (.if_icmp .ne 11, 3) := by decide +kernel
theorem dX2_advance_73 : decode cX2_advance 73 = .ok (.aload_n 0, 1) := by decide +kernel
theorem dX2_advance_74 : decode cX2_advance 74 = .ok (.iconst 0, 1) := by decide +kernel
theorem dX2_advance_75 : decode cX2_advance 75 = .ok (.putfield 38, 3) := by decide +kernel
theorem dX2_advance_78 : decode cX2_advance 78 = .ok (.goto 57, 3) := by decide +kernel
theorem dX2_advance_81 : decode cX2_advance 81 = .ok (.iload_n 1, 1) := by decide +kernel
theorem dX2_advance_82 : decode cX2_advance 82 = .ok (.invokestatic 88, 3) := by decide +kernel
theorem dX2_advance_85 : decode cX2_advance 85 = .ok (.ifCond .eq 10, 3) := by decide +kernel
theorem dX2_advance_88 : decode cX2_advance 88 = .ok (.aload_n 0, 1) := by decide +kernel
theorem dX2_advance_89 : decode cX2_advance 89 = .ok (.invokevirtual 91, 3) := by decide +kernel
theorem dX2_advance_92 : decode cX2_advance 92 = .ok (.goto 43, 3) := by decide +kernel
theorem dX2_advance_95 : decode cX2_advance 95 = .ok (.iload_n 1, 1) := by decide +kernel
theorem dX2_advance_96 : decode cX2_advance 96 = .ok (.invokestatic 94, 3) := by decide +kernel
theorem dX2_advance_99 : decode cX2_advance 99 = .ok (.ifCond .eq 10, 3) := by decide +kernel
theorem dX2_advance_102 : decode cX2_advance 102 = .ok (.aload_n 0, 1) := by decide +kernel
theorem dX2_advance_103 : decode cX2_advance 103 = .ok (.invokevirtual 97, 3) := by decide +kernel
theorem dX2_advance_106 : decode cX2_advance 106 = .ok (.goto 29, 3) := by decide +kernel
theorem dX2_advance_109 : decode cX2_advance 109 = .ok (.aload_n 0, 1) := by decide +kernel
theorem dX2_advance_110 : decode cX2_advance 110 = .ok (.iload_n 1, 1) := by decide +kernel
theorem dX2_advance_111 : decode cX2_advance 111 = .ok (.invokestatic 100, 3) := by decide +kernel
theorem dX2_advance_114 : decode cX2_advance 114 = .ok (.ifCond .eq 7, 3) := by decide +kernel
theorem dX2_advance_117 : decode cX2_advance 117 = .ok (.iload_n 1, 1) := by decide +kernel
theorem dX2_advance_118 : decode cX2_advance 118 = .ok (.goto 4, 3) := by decide +kernel
theorem dX2_advance_121 : decode cX2_advance 121 = .ok (.iconst 1, 1) := by decide +kernel
theorem dX2_advance_122 : decode cX2_advance 122 = .ok (.putfield 38, 3) := by decide +kernel
theorem dX2_advance_125 : decode cX2_advance 125 = .ok (.aload_n 0, 1) := by decide +kernel
theorem dX2_advance_126 : decode cX2_advance 126 = .ok (.dup, 1) := by decide +kernel
theorem dX2_advance_127 : decode cX2_advance 127 = .ok (.getfield 23, 3) := by decide +kernel
theorem dX2_advance_130 : decode cX2_advance 130 = .ok (.iconst 1, 1) := by decide +kernel
theorem dX2_advance_131 : decode cX2_advance 131 = .ok (.iadd, 1) := by decide +kernel
theorem dX2_advance_132 : decode cX2_advance 132 = .ok (.putfield 23, 3) := by decide +kernel
theorem dX2_advance_135 : decode cX2_advance 135 = .ok (.return_, 1) := by decide +kernel
theorem dX2_letterAt_0 : decode cX2_letterAt 0 = .ok (.iload_n 1, 1) := by decide +kernel
theorem dX2_letterAt_1 : decode cX2_letterAt 1 = .ok (.ifCond .lt 27, 3) := by decide +kernel
theorem dX2_letterAt_4 : decode cX2_letterAt 4 = .ok (.iload_n 1, 1) := by decide +kernel
theorem dX2_letterAt_5 : decode cX2_letterAt 5 = .ok (.aload_n 0, 1) := by decide +kernel
theorem dX2_letterAt_6 : decode cX2_letterAt 6 = .ok (.getfield 19, 3) := by decide +kernel
theorem dX2_letterAt_9 : decode cX2_letterAt 9 = .ok (.if_icmp .ge 19, 3) := by decide +kernel
theorem dX2_letterAt_12 : decode cX2_letterAt 12 = .ok (.iload_n 1, 1) := by decide +kernel
theorem dX2_letterAt_13 : decode cX2_letterAt 13 = .ok (.sipush 160, 3) := by decide +kernel
theorem dX2_letterAt_16 : decode cX2_letterAt 16 = .ok (.if_icmp .ge 12, 3) := by decide +kernel
theorem dX2_letterAt_19 : decode cX2_letterAt 19 = .ok (.aload_n 0, 1) := by decide +kernel
theorem dX2_letterAt_20 : decode cX2_letterAt 20 = .ok (.getfield 9, 3) := by decide +kernel
theorem dX2_letterAt_23 : decode cX2_letterAt 23 = .ok (.iload_n 1, 1) := by decide +kernel
theorem dX2_letterAt_24 : decode cX2_letterAt 24 = .ok (.iaload, 1) := by decide +kernel
theorem dX2_letterAt_25 : decode cX2_letterAt 25 = .ok (.goto 4, 3) := by decide +kernel
theorem dX2_letterAt_28 : decode cX2_letterAt 28 = .ok (.iconst (-1), 1) := by decide +kernel
theorem dX2_letterAt_29 : decode cX2_letterAt 29 = .ok (.ireturn, 1) := by decide +kernel
theorem dX2_readDigits_0 : decode cX2_readDigits 0 = .ok (.aload_n 0, 1) := by decide +kernel
theorem dX2_readDigits_1 : decode cX2_readDigits 1 = .ok (.iconst 0, 1) := by decide +kernel
theorem dX2_readDigits_2 : decode cX2_readDigits 2 = .ok (.putfield 75, 3) := by decide +kernel
theorem dX2_readDigits_5 : decode cX2_readDigits 5 = .ok (.iconst 0, 1) := by decide +kernel
theorem dX2_readDigits_6 : decode cX2_readDigits 6 = .ok (.istore_n 1, 1) := by decide +kernel
theorem dX2_readDigits_7 : decode cX2_readDigits 7 = .ok (.iload_n 1, 1) := by decide +kernel
theorem dX2_readDigits_8 : decode cX2_readDigits 8 = .ok (.sipush 160, 3) := by decide +kernel
theorem dX2_readDigits_11 : decode cX2_readDigits 11 = .ok (.if_icmp .ge 56, 3) := by decide +kernel
theorem dX2_readDigits_14 : decode cX2_readDigits 14 = .ok (.aload_n 0, 1) := by decide +kernel
theorem dX2_readDigits_15 : decode cX2_readDigits 15 = .ok (.aload_n 0, 1) := by decide +kernel
theorem dX2_readDigits_16 : decode cX2_readDigits 16 = .ok (.getfield 23, 3) := by decide +kernel
theorem dX2_readDigits_19 : decode cX2_readDigits 19 = .ok (.invokevirtual 84, 3) := by decide +kernel
theorem dX2_readDigits_22 : decode cX2_readDigits 22 = .ok (.invokestatic 88, 3) := by decide +kernel
theorem dX2_readDigits_25 : decode cX2_readDigits 25 = .ok (.ifCond .eq 42, 3) := by decide +kernel
theorem dX2_readDigits_28 : decode cX2_readDigits 28 = .ok (.aload_n 0, 1) := by decide +kernel
theorem dX2_readDigits_29 : decode cX2_readDigits 29 = .ok (.aload_n 0, 1) := by decide +kernel
theorem dX2_readDigits_30 : decode cX2_readDigits 30 = .ok (.getfield 75, 3) := by decide +kernel
theorem dX2_readDigits_33 : decode cX2_readDigits 33 = .ok (.bipush 10, 2) := by decide +kernel
theorem dX2_readDigits_35 : decode cX2_readDigits 35 = .ok (.imul, 1) := by decide +kernel
theorem dX2_readDigits_36 : decode cX2_readDigits 36 = .ok (.aload_n 0, 1) := by decide +kernel
theorem dX2_readDigits_37 : decode cX2_readDigits 37 = .ok (.aload_n 0, 1) := by decide +kernel
theorem dX2_readDigits_38 : decode cX2_readDigits 38 = .ok (.getfield 23, 3) := by decide +kernel
theorem dX2_readDigits_41 : decode cX2_readDigits 41 = .ok (.invokevirtual 84, 3) := by decide +kernel
theorem dX2_readDigits_44 : decode cX2_readDigits 44 = .ok (.iadd, 1) := by decide +kernel
theorem dX2_readDigits_45 : decode cX2_readDigits 45 = .ok (.bipush 48, 2) := by decide +kernel
theorem dX2_readDigits_47 : decode cX2_readDigits 47 = .ok (.isub, 1) := by decide +kernel
theorem dX2_readDigits_48 : decode cX2_readDigits 48 = .ok (.putfield 75, 3) := by decide +kernel
theorem dX2_readDigits_51 : decode cX2_readDigits 51 = .ok (.aload_n 0, 1) := by decide +kernel
theorem dX2_readDigits_52 : decode cX2_readDigits 52 = .ok (.dup, 1) := by decide +kernel
theorem dX2_readDigits_53 : decode cX2_readDigits 53 = .ok (.getfield 23, 3) := by decide +kernel
theorem dX2_readDigits_56 : decode cX2_readDigits 56 = .ok (.iconst 1, 1) := by decide +kernel
theorem dX2_readDigits_57 : decode cX2_readDigits 57 = .ok (.iadd, 1) := by decide +kernel
theorem dX2_readDigits_58 : decode cX2_readDigits 58 = .ok (.putfield 23, 3) := by decide +kernel
theorem dX2_readDigits_61 : decode cX2_readDigits 61 = .ok (.iinc 1 1, 3) := by decide +kernel
theorem dX2_readDigits_64 : decode cX2_readDigits 64 = .ok (.goto (-57), 3) := by decide +kernel
theorem dX2_readDigits_67 : decode cX2_readDigits 67 = .ok (.aload_n 0, 1) := by decide +kernel
theorem dX2_readDigits_68 : decode cX2_readDigits 68 = .ok (.aload_n 0, 1) := by decide +kernel
theorem dX2_readDigits_69 : decode cX2_readDigits 69 = .ok (.getfield 23, 3) := by decide +kernel
theorem dX2_readDigits_72 : decode cX2_readDigits 72 = .ok (.aload_n 0, 1) := by decide +kernel
theorem dX2_readDigits_73 : decode cX2_readDigits 73 = .ok (.getfield 44, 3) := by decide +kernel
theorem dX2_readDigits_76 : decode cX2_readDigits 76 = .ok (.isub, 1) := by decide +kernel
theorem dX2_readDigits_77 : decode cX2_readDigits 77 = .ok (.iconst 4, 1) := by decide +kernel
theorem dX2_readDigits_78 : decode cX2_readDigits 78 = .ok (.if_icmp .le 7, 3) := by decide +kernel
theorem dX2_readDigits_81 : decode cX2_readDigits 81 = .ok (.iconst 1, 1) := by decide +kernel
theorem dX2_readDigits_82 : decode cX2_readDigits 82 = .ok (.goto 4, 3) := by decide +kernel
theorem dX2_readDigits_85 : decode cX2_readDigits 85 = .ok (.iconst 2, 1) := by decide +kernel
theorem dX2_readDigits_86 : decode cX2_readDigits 86 = .ok (.putfield 38, 3) := by decide +kernel
theorem dX2_readDigits_89 : decode cX2_readDigits 89 = .ok (.return_, 1) := by decide +kernel
theorem dX2_readWord_0 : decode cX2_readWord 0 = .ok (.iconst 0, 1) := by decide +kernel
theorem dX2_readWord_1 : decode cX2_readWord 1 = .ok (.istore_n 1, 1) := by decide +kernel
theorem dX2_readWord_2 : decode cX2_readWord 2 = .ok (.iload_n 1, 1) := by decide +kernel
theorem dX2_readWord_3 : decode cX2_readWord 3 = .ok (.sipush 160, 3) := by decide +kernel
theorem dX2_readWord_6 : decode cX2_readWord 6 = .ok (.if_icmp .ge 33, 3) := by decide +kernel
theorem dX2_readWord_9 : decode cX2_readWord 9 = .ok (.aload_n 0, 1) := by decide +kernel
theorem dX2_readWord_10 : decode cX2_readWord 10 = .ok (.aload_n 0, 1) := by decide +kernel
theorem dX2_readWord_11 : decode cX2_readWord 11 = .ok (.getfield 23, 3) := by decide +kernel
theorem dX2_readWord_14 : decode cX2_readWord 14 = .ok (.invokevirtual 84, 3) := by decide +kernel
theorem dX2_readWord_17 : decode cX2_readWord 17 = .ok (.invokestatic 94, 3) := by decide +kernel
theorem dX2_readWord_20 : decode cX2_readWord 20 = .ok (.ifCond .eq 19, 3) := by decide +kernel
theorem dX2_readWord_23 : decode cX2_readWord 23 = .ok (.aload_n 0, 1) := by decide +kernel
theorem dX2_readWord_24 : decode cX2_readWord 24 = .ok (.dup, 1) := by decide +kernel
theorem dX2_readWord_25 : decode cX2_readWord 25 = .ok (.getfield 23, 3) := by decide +kernel
theorem dX2_readWord_28 : decode cX2_readWord 28 = .ok (.iconst 1, 1) := by decide +kernel
theorem dX2_readWord_29 : decode cX2_readWord 29 = .ok (.iadd, 1) := by decide +kernel
theorem dX2_readWord_30 : decode cX2_readWord 30 = .ok (.putfield 23, 3) := by decide +kernel
theorem dX2_readWord_33 : decode cX2_readWord 33 = .ok (.iinc 1 1, 3) := by decide +kernel
theorem dX2_readWord_36 : decode cX2_readWord 36 = .ok (.goto (-34), 3) := by decide +kernel
theorem dX2_readWord_39 : decode cX2_readWord 39 = .ok (.aload_n 0, 1) := by decide +kernel
theorem dX2_readWord_40 : decode cX2_readWord 40 = .ok (.iconst 1, 1) := by decide +kernel
theorem dX2_readWord_41 : decode cX2_readWord 41 = .ok (.putfield 38, 3) := by decide +kernel
theorem dX2_readWord_44 : decode cX2_readWord 44 = .ok (.iconst 0, 1) := by decide +kernel
theorem dX2_readWord_45 : decode cX2_readWord 45 = .ok (.istore_n 1, 1) := by decide +kernel
theorem dX2_readWord_46 : decode cX2_readWord 46 = .ok (.iload_n 1, 1) := by decide +kernel
theorem dX2_readWord_47 : decode cX2_readWord 47 = .ok (.bipush 12, 2) := by decide +kernel
theorem dX2_readWord_49 : decode cX2_readWord 49 = .ok (.if_icmp .ge 37, 3) := by decide +kernel
theorem dX2_readWord_52 : decode cX2_readWord 52 = .ok (.aload_n 0, 1) := by decide +kernel
theorem dX2_readWord_53 : decode cX2_readWord 53 = .ok (.getfield 38, 3) := by decide +kernel
theorem dX2_readWord_56 : decode cX2_readWord 56 = .ok (.iconst 1, 1) := by decide +kernel
theorem dX2_readWord_57 : decode cX2_readWord 57 = .ok (.if_icmp .ne 29, 3) := by decide +kernel
theorem dX2_readWord_60 : decode cX2_readWord 60 = .ok (.aload_n 0, 1) := by decide +kernel
theorem dX2_readWord_61 : decode cX2_readWord 61 = .ok (.iload_n 1, 1) := by decide +kernel
theorem dX2_readWord_62 : decode cX2_readWord 62 = .ok (.invokestatic 103, 3) := by decide +kernel
theorem dX2_readWord_65 : decode cX2_readWord 65 = .ok (.invokevirtual 107, 3) := by decide +kernel
theorem dX2_readWord_68 : decode cX2_readWord 68 = .ok (.ifCond .eq 12, 3) := by decide +kernel
theorem dX2_readWord_71 : decode cX2_readWord 71 = .ok (.aload_n 0, 1) := by decide +kernel
theorem dX2_readWord_72 : decode cX2_readWord 72 = .ok (.sipush 256, 3) := by decide +kernel
theorem dX2_readWord_75 : decode cX2_readWord 75 = .ok (.iload_n 1, 1) := by decide +kernel
theorem dX2_readWord_76 : decode cX2_readWord 76 = .ok (.iadd, 1) := by decide +kernel
theorem dX2_readWord_77 : decode cX2_readWord 77 = .ok (.putfield 38, 3) := by decide +kernel
theorem dX2_readWord_80 : decode cX2_readWord 80 = .ok (.iinc 1 1, 3) := by decide +kernel
theorem dX2_readWord_83 : decode cX2_readWord 83 = .ok (.goto (-37), 3) := by decide +kernel
theorem dX2_readWord_86 : decode cX2_readWord 86 = .ok (.return_, 1) := by decide +kernel
theorem dX2_isHere_0 : decode cX2_isHere 0 = .ok (.aload_n 1, 1) := by decide +kernel
theorem dX2_isHere_1 : decode cX2_isHere 1 = .ok (.invokevirtual 111, 3) := by decide +kernel
theorem dX2_isHere_4 : decode cX2_isHere 4 = .ok (.aload_n 0, 1) := by decide +kernel
theorem dX2_isHere_5 : decode cX2_isHere 5 = .ok (.getfield 23, 3) := by decide +kernel
theorem dX2_isHere_8 : decode cX2_isHere 8 = .ok (.aload_n 0, 1) := by decide +kernel
theorem dX2_isHere_9 : decode cX2_isHere 9 = .ok (.getfield 44, 3) := by decide +kernel
theorem dX2_isHere_12 : decode cX2_isHere 12 = .ok (.isub, 1) := by decide +kernel
theorem dX2_isHere_13 : decode cX2_isHere 13 = .ok (.if_icmp .eq 5, 3) := by decide +kernel
theorem dX2_isHere_16 : decode cX2_isHere 16 = .ok (.iconst 0, 1) := by decide +kernel
theorem dX2_isHere_17 : decode cX2_isHere 17 = .ok (.ireturn, 1) := by decide +kernel
theorem dX2_isHere_18 : decode cX2_isHere 18 = .ok (.aload_n 0, 1) := by decide +kernel
theorem dX2_isHere_19 : decode cX2_isHere 19 = .ok (.getfield 44, 3) := by decide +kernel
theorem dX2_isHere_22 : decode cX2_isHere 22 = .ok (.istore_n 2, 1) := by decide +kernel
theorem dX2_isHere_23 : decode cX2_isHere 23 = .ok (.iload_n 2, 1) := by decide +kernel
theorem dX2_isHere_24 : decode cX2_isHere 24 = .ok (.aload_n 0, 1) := by decide +kernel
theorem dX2_isHere_25 : decode cX2_isHere 25 = .ok (.getfield 23, 3) := by decide +kernel
theorem dX2_isHere_28 : decode cX2_isHere 28 = .ok (.if_icmp .ge 37, 3) := by decide +kernel
theorem dX2_isHere_31 : decode cX2_isHere 31 = .ok (.iload_n 2, 1) := by decide +kernel
theorem dX2_isHere_32 : decode cX2_isHere 32 = .ok (.sipush 160, 3) := by decide +kernel
theorem dX2_isHere_35 : decode cX2_isHere 35 = .ok (.if_icmp .ge 30, 3) := by decide +kernel
theorem dX2_isHere_38 : decode cX2_isHere 38 = .ok (.aload_n 1, 1) := by decide +kernel
theorem dX2_isHere_39 : decode cX2_isHere 39 = .ok (.iload_n 2, 1) := by decide +kernel
theorem dX2_isHere_40 : decode cX2_isHere 40 = .ok (.aload_n 0, 1) := by decide +kernel
theorem dX2_isHere_41 : decode cX2_isHere 41 = .ok (.getfield 44, 3) := by decide +kernel
theorem dX2_isHere_44 : decode cX2_isHere 44 = .ok (.isub, 1) := by decide +kernel
theorem dX2_isHere_45 : decode cX2_isHere 45 = .ok (.invokevirtual 117, 3) := by decide +kernel
theorem dX2_isHere_48 : decode cX2_isHere 48 = .ok (.aload_n 0, 1) := by decide +kernel
theorem dX2_isHere_49 : decode cX2_isHere 49 = .ok (.getfield 9, 3) := by decide +kernel
theorem dX2_isHere_52 : decode cX2_isHere 52 = .ok (.iload_n 2, 1) := by decide +kernel
theorem dX2_isHere_53 : decode cX2_isHere 53 = .ok (.iaload, 1) := by decide +kernel
theorem dX2_isHere_54 : decode cX2_isHere 54 = .ok (.if_icmp .eq 5, 3) := by decide +kernel
theorem dX2_isHere_57 : decode cX2_isHere 57 = .ok (.iconst 0, 1) := by decide +kernel
theorem dX2_isHere_58 : decode cX2_isHere 58 = .ok (.ireturn, 1) := by decide +kernel
theorem dX2_isHere_59 : decode cX2_isHere 59 = .ok (.iinc 2 1, 3) := by decide +kernel
theorem dX2_isHere_62 : decode cX2_isHere 62 = .ok (.goto (-39), 3) := by decide +kernel
theorem dX2_isHere_65 : decode cX2_isHere 65 = .ok (.iconst 1, 1) := by decide +kernel
theorem dX2_isHere_66 : decode cX2_isHere 66 = .ok (.ireturn, 1) := by decide +kernel
theorem dX2_isDigit_0 : decode cX2_isDigit 0 = .ok (.iload_n 0, 1) := by decide +kernel
theorem dX2_isDigit_1 : decode cX2_isDigit 1 = .ok (.bipush 48, 2) := by decide +kernel
theorem dX2_isDigit_3 : decode cX2_isDigit 3 = .ok (.if_icmp .lt 13, 3) := by decide +kernel
theorem dX2_isDigit_6 : decode cX2_isDigit 6 = .ok (.iload_n 0, 1) := by decide +kernel
theorem dX2_isDigit_7 : decode cX2_isDigit 7 = .ok (.bipush 57, 2) := by decide +kernel
theorem dX2_isDigit_9 : decode cX2_isDigit 9 = .ok (.if_icmp .gt 7, 3) := by decide +kernel
theorem dX2_isDigit_12 : decode cX2_isDigit 12 = .ok (.iconst 1, 1) := by decide +kernel
theorem dX2_isDigit_13 : decode cX2_isDigit 13 = .ok (.goto 4, 3) := by decide +kernel
theorem dX2_isDigit_16 : decode cX2_isDigit 16 = .ok (.iconst 0, 1) := by decide +kernel
theorem dX2_isDigit_17 : decode cX2_isDigit 17 = .ok (.ireturn, 1) := by decide +kernel
theorem dX2_isSmall_0 : decode cX2_isSmall 0 = .ok (.iload_n 0, 1) := by decide +kernel
theorem dX2_isSmall_1 : decode cX2_isSmall 1 = .ok (.bipush 97, 2) := by decide +kernel
theorem dX2_isSmall_3 : decode cX2_isSmall 3 = .ok (.if_icmp .lt 13, 3) := by decide +kernel
theorem dX2_isSmall_6 : decode cX2_isSmall 6 = .ok (.iload_n 0, 1) := by decide +kernel
theorem dX2_isSmall_7 : decode cX2_isSmall 7 = .ok (.bipush 122, 2) := by decide +kernel
theorem dX2_isSmall_9 : decode cX2_isSmall 9 = .ok (.if_icmp .gt 7, 3) := by decide +kernel
theorem dX2_isSmall_12 : decode cX2_isSmall 12 = .ok (.iconst 1, 1) := by decide +kernel
theorem dX2_isSmall_13 : decode cX2_isSmall 13 = .ok (.goto 4, 3) := by decide +kernel
theorem dX2_isSmall_16 : decode cX2_isSmall 16 = .ok (.iconst 0, 1) := by decide +kernel
theorem dX2_isSmall_17 : decode cX2_isSmall 17 = .ok (.ireturn, 1) := by decide +kernel
theorem dX2_isSign_0 : decode cX2_isSign 0 = .ok (.iload_n 0, 1) := by decide +kernel
theorem dX2_isSign_1 : decode cX2_isSign 1 = .ok (.bipush 40, 2) := by decide +kernel
theorem dX2_isSign_3 : decode cX2_isSign 3 = .ok (.if_icmp .eq 45, 3) := by decide +kernel
theorem dX2_isSign_6 : decode cX2_isSign 6 = .ok (.iload_n 0, 1) := by decide +kernel
theorem dX2_isSign_7 : decode cX2_isSign 7 = .ok (.bipush 41, 2) := by decide +kernel
theorem dX2_isSign_9 : decode cX2_isSign 9 = .ok (.if_icmp .eq 39, 3) := by decide +kernel
theorem dX2_isSign_12 : decode cX2_isSign 12 = .ok (.iload_n 0, 1) := by decide +kernel
theorem dX2_isSign_13 : decode cX2_isSign 13 = .ok (.bipush 59, 2) := by decide +kernel
theorem dX2_isSign_15 : decode cX2_isSign 15 = .ok (.if_icmp .eq 33, 3) := by decide +kernel
theorem dX2_isSign_18 : decode cX2_isSign 18 = .ok (.iload_n 0, 1) := by decide +kernel
theorem dX2_isSign_19 : decode cX2_isSign 19 = .ok (.bipush 43, 2) := by decide +kernel
theorem dX2_isSign_21 : decode cX2_isSign 21 = .ok (.if_icmp .eq 27, 3) := by decide +kernel
theorem dX2_isSign_24 : decode cX2_isSign 24 = .ok (.iload_n 0, 1) := by decide +kernel
theorem dX2_isSign_25 : decode cX2_isSign 25 = .ok (.bipush 45, 2) := by decide +kernel
theorem dX2_isSign_27 : decode cX2_isSign 27 = .ok (.if_icmp .eq 21, 3) := by decide +kernel
theorem dX2_isSign_30 : decode cX2_isSign 30 = .ok (.iload_n 0, 1) := by decide +kernel
theorem dX2_isSign_31 : decode cX2_isSign 31 = .ok (.bipush 42, 2) := by decide +kernel
theorem dX2_isSign_33 : decode cX2_isSign 33 = .ok (.if_icmp .eq 15, 3) := by decide +kernel
theorem dX2_isSign_36 : decode cX2_isSign 36 = .ok (.iload_n 0, 1) := by decide +kernel
theorem dX2_isSign_37 : decode cX2_isSign 37 = .ok (.bipush 60, 2) := by decide +kernel
theorem dX2_isSign_39 : decode cX2_isSign 39 = .ok (.if_icmp .eq 9, 3) := by decide +kernel
theorem dX2_isSign_42 : decode cX2_isSign 42 = .ok (.iload_n 0, 1) := by decide +kernel
theorem dX2_isSign_43 : decode cX2_isSign 43 = .ok (.bipush 61, 2) := by decide +kernel
theorem dX2_isSign_45 : decode cX2_isSign 45 = .ok (.if_icmp .ne 7, 3) := by decide +kernel
theorem dX2_isSign_48 : decode cX2_isSign 48 = .ok (.iconst 1, 1) := by decide +kernel
theorem dX2_isSign_49 : decode cX2_isSign 49 = .ok (.goto 4, 3) := by decide +kernel
theorem dX2_isSign_52 : decode cX2_isSign 52 = .ok (.iconst 0, 1) := by decide +kernel
theorem dX2_isSign_53 : decode cX2_isSign 53 = .ok (.ireturn, 1) := by decide +kernel
theorem dX2_word_0 : decode cX2_word 0 = .ok (.iload_n 0, 1) := by decide +kernel
theorem dX2_word_1 : decode cX2_word 1 = .ok (.tableswitch 92 0 10 #[59, 62, 65, 68, 71, 74, 77, 80, 83, 86, 89], 59) := by decide +kernel
theorem dX2_word_60 : decode cX2_word 60 = .ok (.ldc 121, 2) := by decide +kernel
theorem dX2_word_62 : decode cX2_word 62 = .ok (.areturn, 1) := by decide +kernel
theorem dX2_word_63 : decode cX2_word 63 = .ok (.ldc 123, 2) := by decide +kernel
theorem dX2_word_65 : decode cX2_word 65 = .ok (.areturn, 1) := by decide +kernel
theorem dX2_word_66 : decode cX2_word 66 = .ok (.ldc 125, 2) := by decide +kernel
theorem dX2_word_68 : decode cX2_word 68 = .ok (.areturn, 1) := by decide +kernel
theorem dX2_word_69 : decode cX2_word 69 = .ok (.ldc 127, 2) := by decide +kernel
theorem dX2_word_71 : decode cX2_word 71 = .ok (.areturn, 1) := by decide +kernel
theorem dX2_word_72 : decode cX2_word 72 = .ok (.ldc 129, 2) := by decide +kernel
theorem dX2_word_74 : decode cX2_word 74 = .ok (.areturn, 1) := by decide +kernel
theorem dX2_word_75 : decode cX2_word 75 = .ok (.ldc 131, 2) := by decide +kernel
theorem dX2_word_77 : decode cX2_word 77 = .ok (.areturn, 1) := by decide +kernel
theorem dX2_word_78 : decode cX2_word 78 = .ok (.ldc 132, 2) := by decide +kernel
theorem dX2_word_80 : decode cX2_word 80 = .ok (.areturn, 1) := by decide +kernel
theorem dX2_word_81 : decode cX2_word 81 = .ok (.ldc 134, 2) := by decide +kernel
theorem dX2_word_83 : decode cX2_word 83 = .ok (.areturn, 1) := by decide +kernel
theorem dX2_word_84 : decode cX2_word 84 = .ok (.ldc 136, 2) := by decide +kernel
theorem dX2_word_86 : decode cX2_word 86 = .ok (.areturn, 1) := by decide +kernel
theorem dX2_word_87 : decode cX2_word 87 = .ok (.ldc 138, 2) := by decide +kernel
theorem dX2_word_89 : decode cX2_word 89 = .ok (.areturn, 1) := by decide +kernel
theorem dX2_word_90 : decode cX2_word 90 = .ok (.ldc 140, 2) := by decide +kernel
theorem dX2_word_92 : decode cX2_word 92 = .ok (.areturn, 1) := by decide +kernel
theorem dX2_word_93 : decode cX2_word 93 = .ok (.ldc 142, 2) := by decide +kernel
theorem dX2_word_95 : decode cX2_word 95 = .ok (.areturn, 1) := by decide +kernel
end
section
theorem dX3_init_0 : decode cX3_init 0 = .ok (.aload_n 0, 1) := by decide +kernel
theorem dX3_init_1 : decode cX3_init 1 = .ok (.invokespecial 3, 3) := by decide +kernel
theorem dX3_init_4 : decode cX3_init 4 = .ok (.aload_n 0, 1) := by decide +kernel
theorem dX3_init_5 : decode cX3_init 5 = .ok (.bipush 40, 2) := by decide +kernel
theorem dX3_init_7 : decode cX3_init 7 = .ok (.newarray .int, 2) := by decide +kernel
theorem dX3_init_9 : decode cX3_init 9 = .ok (.putfield 9, 3) := by decide +kernel
theorem dX3_init_12 : decode cX3_init 12 = .ok (.aload_n 0, 1) := by decide +kernel
theorem dX3_init_13 : decode cX3_init 13 = .ok (.iconst (-1), 1) := by decide +kernel
theorem dX3_init_14 : decode cX3_init 14 = .ok (.putfield 15, 3) := by decide +kernel
theorem dX3_init_17 : decode cX3_init 17 = .ok (.return_, 1) := by decide +kernel
theorem dX3_become_0 : decode cX3_become 0 = .ok (.aload_n 0, 1) := by decide +kernel
theorem dX3_become_1 : decode cX3_become 1 = .ok (.iload_n 1, 1) := by decide +kernel
theorem dX3_become_2 : decode cX3_become 2 = .ok (.putfield 15, 3) := by decide +kernel
theorem dX3_become_5 : decode cX3_become 5 = .ok (.aload_n 0, 1) := by decide +kernel
theorem dX3_become_6 : decode cX3_become 6 = .ok (.iload_n 2, 1) := by decide +kernel
theorem dX3_become_7 : decode cX3_become 7 = .ok (.putfield 19, 3) := by decide +kernel
theorem dX3_become_10 : decode cX3_become 10 = .ok (.iconst 0, 1) := by decide +kernel
theorem dX3_become_11 : decode cX3_become 11 = .ok (.istore_n 3, 1) := by decide +kernel
theorem dX3_become_12 : decode cX3_become 12 = .ok (.iload_n 3, 1) := by decide +kernel
theorem dX3_become_13 : decode cX3_become 13 = .ok (.bipush 40, 2) := by decide +kernel
theorem dX3_become_15 : decode cX3_become 15 = .ok (.if_icmp .ge 16, 3) := by decide +kernel
theorem dX3_become_18 : decode cX3_become 18 = .ok (.aload_n 0, 1) := by decide +kernel
theorem dX3_become_19 : decode cX3_become 19 = .ok (.getfield 9, 3) := by decide +kernel
theorem dX3_become_22 : decode cX3_become 22 = .ok (.iload_n 3, 1) := by decide +kernel
theorem dX3_become_23 : decode cX3_become 23 = .ok (.iconst 0, 1) := by decide +kernel
theorem dX3_become_24 : decode cX3_become 24 = .ok (.iastore, 1) := by decide +kernel
theorem dX3_become_25 : decode cX3_become 25 = .ok (.iinc 3 1, 3) := by decide +kernel
theorem dX3_become_28 : decode cX3_become 28 = .ok (.goto (-16), 3) := by decide +kernel
theorem dX3_become_31 : decode cX3_become 31 = .ok (.return_, 1) := by decide +kernel
theorem dX3_has_0 : decode cX3_has 0 = .ok (.iload_n 1, 1) := by decide +kernel
theorem dX3_has_1 : decode cX3_has 1 = .ok (.ifCond .lt 21, 3) := by decide +kernel
theorem dX3_has_4 : decode cX3_has 4 = .ok (.iload_n 1, 1) := by decide +kernel
theorem dX3_has_5 : decode cX3_has 5 = .ok (.aload_n 0, 1) := by decide +kernel
theorem dX3_has_6 : decode cX3_has 6 = .ok (.getfield 19, 3) := by decide +kernel
theorem dX3_has_9 : decode cX3_has 9 = .ok (.if_icmp .ge 13, 3) := by decide +kernel
theorem dX3_has_12 : decode cX3_has 12 = .ok (.iload_n 1, 1) := by decide +kernel
theorem dX3_has_13 : decode cX3_has 13 = .ok (.bipush 40, 2) := by decide +kernel
theorem dX3_has_15 : decode cX3_has 15 = .ok (.if_icmp .ge 7, 3) := by decide +kernel
theorem dX3_has_18 : decode cX3_has 18 = .ok (.iconst 1, 1) := by decide +kernel
theorem dX3_has_19 : decode cX3_has 19 = .ok (.goto 4, 3) := by decide +kernel
theorem dX3_has_22 : decode cX3_has 22 = .ok (.iconst 0, 1) := by decide +kernel
theorem dX3_has_23 : decode cX3_has 23 = .ok (.ireturn, 1) := by decide +kernel
theorem dX3_hasRun_0 : decode cX3_hasRun 0 = .ok (.iload_n 1, 1) := by decide +kernel
theorem dX3_hasRun_1 : decode cX3_hasRun 1 = .ok (.ifCond .lt 29, 3) := by decide +kernel
theorem dX3_hasRun_4 : decode cX3_hasRun 4 = .ok (.iload_n 2, 1) := by decide +kernel
theorem dX3_hasRun_5 : decode cX3_hasRun 5 = .ok (.ifCond .lt 25, 3) := by decide +kernel
theorem dX3_hasRun_8 : decode cX3_hasRun 8 = .ok (.iload_n 2, 1) := by decide +kernel
theorem dX3_hasRun_9 : decode cX3_hasRun 9 = .ok (.aload_n 0, 1) := by decide +kernel
theorem dX3_hasRun_10 : decode cX3_hasRun 10 = .ok (.getfield 19, 3) := by decide +kernel
theorem dX3_hasRun_13 : decode cX3_hasRun 13 = .ok (.if_icmp .gt 17, 3) := by decide +kernel
theorem dX3_hasRun_16 : decode cX3_hasRun 16 = .ok (.iload_n 1, 1) := by decide +kernel
theorem dX3_hasRun_17 : decode cX3_hasRun 17 = .ok (.aload_n 0, 1) := by decide +kernel
theorem dX3_hasRun_18 : decode cX3_hasRun 18 = .ok (.getfield 19, 3) := by decide +kernel
theorem dX3_hasRun_21 : decode cX3_hasRun 21 = .ok (.iload_n 2, 1) := by decide +kernel
theorem dX3_hasRun_22 : decode cX3_hasRun 22 = .ok (.isub, 1) := by decide +kernel
theorem dX3_hasRun_23 : decode cX3_hasRun 23 = .ok (.if_icmp .gt 7, 3) := by decide +kernel
theorem dX3_hasRun_26 : decode cX3_hasRun 26 = .ok (.iconst 1, 1) := by decide +kernel
theorem dX3_hasRun_27 : decode cX3_hasRun 27 = .ok (.goto 4, 3) := by decide +kernel
theorem dX3_hasRun_30 : decode cX3_hasRun 30 = .ok (.iconst 0, 1) := by decide +kernel
theorem dX3_hasRun_31 : decode cX3_hasRun 31 = .ok (.ireturn, 1) := by decide +kernel
theorem dX3_put_0 : decode cX3_put 0 = .ok (.aload_n 0, 1) := by decide +kernel
theorem dX3_put_1 : decode cX3_put 1 = .ok (.iload_n 1, 1) := by decide +kernel
theorem dX3_put_2 : decode cX3_put 2 = .ok (.invokevirtual 22, 3) := by decide +kernel
theorem dX3_put_5 : decode cX3_put 5 = .ok (.ifCond .eq 35, 3) := by decide +kernel
theorem dX3_put_8 : decode cX3_put 8 = .ok (.aload_n 0, 1) := by decide +kernel
theorem dX3_put_9 : decode cX3_put 9 = .ok (.getfield 9, 3) := by decide +kernel
theorem dX3_put_12 : decode cX3_put 12 = .ok (.iload_n 1, 1) := by decide +kernel
theorem dX3_put_13 : decode cX3_put 13 = .ok (.aload_n 0, 1) := by decide +kernel
theorem dX3_put_14 : decode cX3_put 14 = .ok (.getfield 15, 3) := by decide +kernel
theorem dX3_put_17 : decode cX3_put 17 = .ok (.ifCond .ne 8, 3) := by decide +kernel
theorem dX3_put_20 : decode cX3_put 20 = .ok (.iload_n 2, 1) := by decide +kernel
theorem dX3_put_21 : decode cX3_put 21 = .ok (.i2b, 1) := by decide +kernel
theorem dX3_put_22 : decode cX3_put 22 = .ok (.goto 17, 3) := by decide +kernel
theorem dX3_put_25 : decode cX3_put 25 = .ok (.aload_n 0, 1) := by decide +kernel
theorem dX3_put_26 : decode cX3_put 26 = .ok (.getfield 15, 3) := by decide +kernel
theorem dX3_put_29 : decode cX3_put 29 = .ok (.iconst 1, 1) := by decide +kernel
theorem dX3_put_30 : decode cX3_put 30 = .ok (.if_icmp .ne 8, 3) := by decide +kernel
theorem dX3_put_33 : decode cX3_put 33 = .ok (.iload_n 2, 1) := by decide +kernel
theorem dX3_put_34 : decode cX3_put 34 = .ok (.i2s, 1) := by decide +kernel
theorem dX3_put_35 : decode cX3_put 35 = .ok (.goto 4, 3) := by decide +kernel
theorem dX3_put_38 : decode cX3_put 38 = .ok (.iload_n 2, 1) := by decide +kernel
theorem dX3_put_39 : decode cX3_put 39 = .ok (.iastore, 1) := by decide +kernel
theorem dX3_put_40 : decode cX3_put 40 = .ok (.return_, 1) := by decide +kernel
end
section
theorem dX4_init_0 : decode cX4_init 0 = .ok (.aload_n 0, 1) := by decide +kernel
theorem dX4_init_1 : decode cX4_init 1 = .ok (.invokespecial 3, 3) := by decide +kernel
theorem dX4_init_4 : decode cX4_init 4 = .ok (.aload_n 0, 1) := by decide +kernel
theorem dX4_init_5 : decode cX4_init 5 = .ok (.sipush 960, 3) := by decide +kernel
theorem dX4_init_8 : decode cX4_init 8 = .ok (.newarray .int, 2) := by decide +kernel
theorem dX4_init_10 : decode cX4_init 10 = .ok (.putfield 9, 3) := by decide +kernel
theorem dX4_init_13 : decode cX4_init 13 = .ok (.aload_n 0, 1) := by decide +kernel
theorem dX4_init_14 : decode cX4_init 14 = .ok (.bipush 18, 2) := by decide +kernel
theorem dX4_init_16 : decode cX4_init 16 = .ok (.newarray .int, 2) := by decide +kernel
theorem dX4_init_18 : decode cX4_init 18 = .ok (.putfield 15, 3) := by decide +kernel
theorem dX4_init_21 : decode cX4_init 21 = .ok (.aload_n 0, 1) := by decide +kernel
theorem dX4_init_22 : decode cX4_init 22 = .ok (.bipush 64, 2) := by decide +kernel
theorem dX4_init_24 : decode cX4_init 24 = .ok (.newarray .int, 2) := by decide +kernel
theorem dX4_init_26 : decode cX4_init 26 = .ok (.putfield 18, 3) := by decide +kernel
theorem dX4_init_29 : decode cX4_init 29 = .ok (.return_, 1) := by decide +kernel
theorem dX4_begin_0 : decode cX4_begin 0 = .ok (.aload_n 0, 1) := by decide +kernel
theorem dX4_begin_1 : decode cX4_begin 1 = .ok (.aload_n 0, 1) := by decide +kernel
theorem dX4_begin_2 : decode cX4_begin 2 = .ok (.getfield 21, 3) := by decide +kernel
theorem dX4_begin_5 : decode cX4_begin 5 = .ok (.sipush 160, 3) := by decide +kernel
theorem dX4_begin_8 : decode cX4_begin 8 = .ok (.imul, 1) := by decide +kernel
theorem dX4_begin_9 : decode cX4_begin 9 = .ok (.putfield 25, 3) := by decide +kernel
theorem dX4_begin_12 : decode cX4_begin 12 = .ok (.return_, 1) := by decide +kernel
theorem dX4_put_0 : decode cX4_put 0 = .ok (.aload_n 0, 1) := by decide +kernel
theorem dX4_put_1 : decode cX4_put 1 = .ok (.getfield 25, 3) := by decide +kernel
theorem dX4_put_4 : decode cX4_put 4 = .ok (.ifCond .lt 35, 3) := by decide +kernel
theorem dX4_put_7 : decode cX4_put 7 = .ok (.aload_n 0, 1) := by decide +kernel
theorem dX4_put_8 : decode cX4_put 8 = .ok (.getfield 25, 3) := by decide +kernel
theorem dX4_put_11 : decode cX4_put 11 = .ok (.aload_n 0, 1) := by decide +kernel
theorem dX4_put_12 : decode cX4_put 12 = .ok (.getfield 9, 3) := by decide +kernel
theorem dX4_put_15 : decode cX4_put 15 = .ok (.arraylength, 1) := by decide +kernel
theorem dX4_put_16 : decode cX4_put 16 = .ok (.if_icmp .ge 23, 3) := by decide +kernel
theorem dX4_put_19 : decode cX4_put 19 = .ok (.aload_n 0, 1) := by decide +kernel
theorem dX4_put_20 : decode cX4_put 20 = .ok (.getfield 9, 3) := by decide +kernel
theorem dX4_put_23 : decode cX4_put 23 = .ok (.aload_n 0, 1) := by decide +kernel
theorem dX4_put_24 : decode cX4_put 24 = .ok (.getfield 25, 3) := by decide +kernel
theorem dX4_put_27 : decode cX4_put 27 = .ok (.iload_n 1, 1) := by decide +kernel
theorem dX4_put_28 : decode cX4_put 28 = .ok (.iastore, 1) := by decide +kernel
theorem dX4_put_29 : decode cX4_put 29 = .ok (.aload_n 0, 1) := by decide +kernel
theorem dX4_put_30 : decode cX4_put 30 = .ok (.dup, 1) := by decide +kernel
theorem dX4_put_31 : decode cX4_put 31 = .ok (.getfield 25, 3) := by decide +kernel
theorem dX4_put_34 : decode cX4_put 34 = .ok (.iconst 1, 1) := by decide +kernel
theorem dX4_put_35 : decode cX4_put 35 = .ok (.iadd, 1) := by decide +kernel
theorem dX4_put_36 : decode cX4_put 36 = .ok (.putfield 25, 3) := by decide +kernel
theorem dX4_put_39 : decode cX4_put 39 = .ok (.return_, 1) := by decide +kernel
theorem dX4_endPart_0 : decode cX4_endPart 0 = .ok (.aload_n 0, 1) := by decide +kernel
theorem dX4_endPart_1 : decode cX4_endPart 1 = .ok (.getfield 21, 3) := by decide +kernel
theorem dX4_endPart_4 : decode cX4_endPart 4 = .ok (.iconst 3, 1) := by decide +kernel
theorem dX4_endPart_5 : decode cX4_endPart 5 = .ok (.imul, 1) := by decide +kernel
theorem dX4_endPart_6 : decode cX4_endPart 6 = .ok (.iload_n 1, 1) := by decide +kernel
theorem dX4_endPart_7 : decode cX4_endPart 7 = .ok (.iadd, 1) := by decide +kernel
theorem dX4_endPart_8 : decode cX4_endPart 8 = .ok (.istore_n 2, 1) := by decide +kernel
theorem dX4_endPart_9 : decode cX4_endPart 9 = .ok (.iload_n 2, 1) := by decide +kernel
theorem dX4_endPart_10 : decode cX4_endPart 10 = .ok (.ifCond .lt 22, 3) := by decide +kernel
theorem dX4_endPart_13 : decode cX4_endPart 13 = .ok (.iload_n 2, 1) := by decide +kernel
theorem dX4_endPart_14 : decode cX4_endPart 14 = .ok (.aload_n 0, 1) := by decide +kernel
theorem dX4_endPart_15 : decode cX4_endPart 15 = .ok (.getfield 15, 3) := by decide +kernel
theorem dX4_endPart_18 : decode cX4_endPart 18 = .ok (.arraylength, 1) := by decide +kernel
theorem dX4_endPart_19 : decode cX4_endPart 19 = .ok (.if_icmp .ge 13, 3) := by decide +kernel
theorem dX4_endPart_22 : decode cX4_endPart 22 = .ok (.aload_n 0, 1) := by decide +kernel
theorem dX4_endPart_23 : decode cX4_endPart 23 = .ok (.getfield 15, 3) := by decide +kernel
theorem dX4_endPart_26 : decode cX4_endPart 26 = .ok (.iload_n 2, 1) := by decide +kernel
theorem dX4_endPart_27 : decode cX4_endPart 27 = .ok (.aload_n 0, 1) := by decide +kernel
theorem dX4_endPart_28 : decode cX4_endPart 28 = .ok (.getfield 25, 3) := by decide +kernel
theorem dX4_endPart_31 : decode cX4_endPart 31 = .ok (.iastore, 1) := by decide +kernel
theorem dX4_endPart_32 : decode cX4_endPart 32 = .ok (.return_, 1) := by decide +kernel
theorem dX4_value_0 : decode cX4_value 0 = .ok (.aload_n 2, 1) := by decide +kernel
theorem dX4_value_1 : decode cX4_value 1 = .ok (.getfield 28, 3) := by decide +kernel
theorem dX4_value_4 : decode cX4_value 4 = .ok (.istore 5, 2) := by decide +kernel
theorem dX4_value_6 : decode cX4_value 6 = .ok (.iload 5, 2) := by decide +kernel
theorem dX4_value_8 : decode cX4_value 8 = .ok (.ifCond .lt 28, 3) := by decide +kernel
theorem dX4_value_11 : decode cX4_value 11 = .ok (.iload 5, 2) := by decide +kernel
theorem dX4_value_13 : decode cX4_value 13 = .ok (.aload_n 0, 1) := by decide +kernel
theorem dX4_value_14 : decode cX4_value 14 = .ok (.getfield 21, 3) := by decide +kernel
theorem dX4_value_17 : decode cX4_value 17 = .ok (.if_icmp .ge 19, 3) := by decide +kernel
theorem dX4_value_20 : decode cX4_value 20 = .ok (.iload 5, 2) := by decide +kernel
theorem dX4_value_22 : decode cX4_value 22 = .ok (.bipush 6, 2) := by decide +kernel
theorem dX4_value_24 : decode cX4_value 24 = .ok (.if_icmp .ge 12, 3) := by decide +kernel
theorem dX4_value_27 : decode cX4_value 27 = .ok (.iload_n 1, 1) := by decide +kernel
theorem dX4_value_28 : decode cX4_value 28 = .ok (.ifCond .lt 8, 3) := by decide +kernel
theorem dX4_value_31 : decode cX4_value 31 = .ok (.iload_n 1, 1) := by decide +kernel
theorem dX4_value_32 : decode cX4_value 32 = .ok (.iconst 3, 1) := by decide +kernel
theorem dX4_value_33 : decode cX4_value 33 = .ok (.if_icmp .lt 5, 3) := by decide +kernel
theorem dX4_value_36 : decode cX4_value 36 = .ok (.iconst 0, 1) := by decide +kernel
theorem dX4_value_37 : decode cX4_value 37 = .ok (.ireturn, 1) := by decide +kernel
theorem dX4_value_38 : decode cX4_value 38 = .ok (.iload 5, 2) := by decide +kernel
theorem dX4_value_40 : decode cX4_value 40 = .ok (.iconst 3, 1) := by decide +kernel
theorem dX4_value_41 : decode cX4_value 41 = .ok (.imul, 1) := by decide +kernel
theorem dX4_value_42 : decode cX4_value 42 = .ok (.iload_n 1, 1) := by decide +kernel
theorem dX4_value_43 : decode cX4_value 43 = .ok (.iadd, 1) := by decide +kernel
theorem dX4_value_44 : decode cX4_value 44 = .ok (.istore 6, 2) := by decide +kernel
theorem dX4_value_46 : decode cX4_value 46 = .ok (.aload_n 0, 1) := by decide +kernel
theorem dX4_value_47 : decode cX4_value 47 = .ok (.getfield 15, 3) := by decide +kernel
theorem dX4_value_50 : decode cX4_value 50 = .ok (.iload 6, 2) := by decide +kernel
theorem dX4_value_52 : decode cX4_value 52 = .ok (.iaload, 1) := by decide +kernel
theorem dX4_value_53 : decode cX4_value 53 = .ok (.aload_n 0, 1) := by decide +kernel
theorem dX4_value_54 : decode cX4_value 54 = .ok (.getfield 9, 3) := by decide +kernel
theorem dX4_value_57 : decode cX4_value 57 = .ok (.arraylength, 1) := by decide +kernel
theorem dX4_value_58 : decode cX4_value 58 = .ok (.invokestatic 33, 3) := by decide +kernel
theorem dX4_value_61 : decode cX4_value 61 = .ok (.istore 7, 2) := by decide +kernel
theorem dX4_value_63 : decode cX4_value 63 = .ok (.iconst 0, 1) := by decide +kernel
theorem dX4_value_64 : decode cX4_value 64 = .ok (.istore 8, 2) := by decide +kernel
theorem dX4_value_66 : decode cX4_value 66 = .ok (.iload_n 1, 1) := by decide +kernel
theorem dX4_value_67 : decode cX4_value 67 = .ok (.ifCond .ne 12, 3) := by decide +kernel
theorem dX4_value_70 : decode cX4_value 70 = .ok (.iload 5, 2) := by decide +kernel
theorem dX4_value_72 : decode cX4_value 72 = .ok (.sipush 160, 3) := by decide +kernel
theorem dX4_value_75 : decode cX4_value 75 = .ok (.imul, 1) := by decide +kernel
theorem dX4_value_76 : decode cX4_value 76 = .ok (.goto 12, 3) := by decide +kernel
theorem dX4_value_79 : decode cX4_value 79 = .ok (.aload_n 0, 1) := by decide +kernel
theorem dX4_value_80 : decode cX4_value 80 = .ok (.getfield 15, 3) := by decide +kernel
theorem dX4_value_83 : decode cX4_value 83 = .ok (.iload 6, 2) := by decide +kernel
theorem dX4_value_85 : decode cX4_value 85 = .ok (.iconst 1, 1) := by decide +kernel
theorem dX4_value_86 : decode cX4_value 86 = .ok (.isub, 1) := by decide +kernel
theorem dX4_value_87 : decode cX4_value 87 = .ok (.iaload, 1) := by decide +kernel
theorem dX4_value_88 : decode cX4_value 88 = .ok (.istore 9, 2) := by decide +kernel
theorem dX4_value_90 : decode cX4_value 90 = .ok (.iload 9, 2) := by decide +kernel
theorem dX4_value_92 : decode cX4_value 92 = .ok (.iload 7, 2) := by decide +kernel
theorem dX4_value_94 : decode cX4_value 94 = .ok (.if_icmp .ge 151, 3) := by decide +kernel
theorem dX4_value_97 : decode cX4_value 97 = .ok (.aload_n 0, 1) := by decide +kernel
theorem dX4_value_98 : decode cX4_value 98 = .ok (.getfield 9, 3) := by decide +kernel
theorem dX4_value_101 : decode cX4_value 101 = .ok (.iload 9, 2) := by decide +kernel
theorem dX4_value_103 : decode cX4_value 103 = .ok (.iaload, 1) := by decide +kernel
theorem dX4_value_104 : decode cX4_value 104 = .ok (.istore 10, 2) := by decide +kernel
theorem dX4_value_106 : decode cX4_value 106 = .ok (.iload 10, 2) := by decide +kernel
theorem dX4_value_108 : decode cX4_value 108 = .ok (.sipush 20000, 3) := by decide +kernel
theorem dX4_value_111 : decode cX4_value 111 = .ok (.if_icmp .ge 51, 3) := by decide +kernel
theorem dX4_value_114 : decode cX4_value 114 = .ok (.iload 8, 2) := by decide +kernel
theorem dX4_value_116 : decode cX4_value 116 = .ok (.bipush 64, 2) := by decide +kernel
theorem dX4_value_118 : decode cX4_value 118 = .ok (.if_icmp .lt 5, 3) := by decide +kernel
theorem dX4_value_121 : decode cX4_value 121 = .ok (.iconst 0, 1) := by decide +kernel
theorem dX4_value_122 : decode cX4_value 122 = .ok (.ireturn, 1) := by decide +kernel
theorem dX4_value_123 : decode cX4_value 123 = .ok (.aload_n 0, 1) := by decide +kernel
theorem dX4_value_124 : decode cX4_value 124 = .ok (.getfield 18, 3) := by decide +kernel
theorem dX4_value_127 : decode cX4_value 127 = .ok (.iload 8, 2) := by decide +kernel
theorem dX4_value_129 : decode cX4_value 129 = .ok (.iload 10, 2) := by decide +kernel
theorem dX4_value_131 : decode cX4_value 131 = .ok (.sipush 10000, 3) := by decide +kernel
theorem dX4_value_134 : decode cX4_value 134 = .ok (.if_icmp .ge 8, 3) := by decide +kernel
theorem dX4_value_137 : decode cX4_value 137 = .ok (.iload 10, 2) := by decide +kernel
theorem dX4_value_139 : decode cX4_value 139 = .ok (.goto 16, 3) := by decide +kernel
theorem dX4_value_142 : decode cX4_value 142 = .ok (.aload_n 2, 1) := by decide +kernel
theorem dX4_value_143 : decode cX4_value 143 = .ok (.iload 10, 2) := by decide +kernel
theorem dX4_value_145 : decode cX4_value 145 = .ok (.sipush 10000, 3) := by decide +kernel
theorem dX4_value_148 : decode cX4_value 148 = .ok (.isub, 1) := by decide +kernel
theorem dX4_value_149 : decode cX4_value 149 = .ok (.iload_n 3, 1) := by decide +kernel
theorem dX4_value_150 : decode cX4_value 150 = .ok (.iload 4, 2) := by decide +kernel
theorem dX4_value_152 : decode cX4_value 152 = .ok (.invokevirtual 39, 3) := by decide +kernel
theorem dX4_value_155 : decode cX4_value 155 = .ok (.iastore, 1) := by decide +kernel
theorem dX4_value_156 : decode cX4_value 156 = .ok (.iinc 8 1, 3) := by decide +kernel
theorem dX4_value_159 : decode cX4_value 159 = .ok (.goto 80, 3) := by decide +kernel
theorem dX4_value_162 : decode cX4_value 162 = .ok (.iload 10, 2) := by decide +kernel
theorem dX4_value_164 : decode cX4_value 164 = .ok (.sipush 20003, 3) := by decide +kernel
theorem dX4_value_167 : decode cX4_value 167 = .ok (.if_icmp .eq 11, 3) := by decide +kernel
theorem dX4_value_170 : decode cX4_value 170 = .ok (.iload 10, 2) := by decide +kernel
theorem dX4_value_172 : decode cX4_value 172 = .ok (.sipush 20267, 3) := by decide +kernel
theorem dX4_value_175 : decode cX4_value 175 = .ok (.if_icmp .ne 7, 3) := by decide +kernel
theorem dX4_value_178 : decode cX4_value 178 = .ok (.iconst 1, 1) := by decide +kernel
theorem dX4_value_179 : decode cX4_value 179 = .ok (.goto 4, 3) := by decide +kernel
theorem dX4_value_182 : decode cX4_value 182 = .ok (.iconst 2, 1) := by decide +kernel
theorem dX4_value_183 : decode cX4_value 183 = .ok (.istore 11, 2) := by decide +kernel
theorem dX4_value_185 : decode cX4_value 185 = .ok (.iload 8, 2) := by decide +kernel
theorem dX4_value_187 : decode cX4_value 187 = .ok (.iload 11, 2) := by decide +kernel
theorem dX4_value_189 : decode cX4_value 189 = .ok (.if_icmp .ge 5, 3) := by decide +kernel
theorem dX4_value_192 : decode cX4_value 192 = .ok (.iconst 0, 1) := by decide +kernel
theorem dX4_value_193 : decode cX4_value 193 = .ok (.ireturn, 1) := by decide +kernel
theorem dX4_value_194 : decode cX4_value 194 = .ok (.iload 8, 2) := by decide +kernel
theorem dX4_value_196 : decode cX4_value 196 = .ok (.iload 11, 2) := by decide +kernel
theorem dX4_value_198 : decode cX4_value 198 = .ok (.isub, 1) := by decide +kernel
theorem dX4_value_199 : decode cX4_value 199 = .ok (.istore 8, 2) := by decide +kernel
theorem dX4_value_201 : decode cX4_value 201 = .ok (.aload_n 0, 1) := by decide +kernel
theorem dX4_value_202 : decode cX4_value 202 = .ok (.getfield 18, 3) := by decide +kernel
theorem dX4_value_205 : decode cX4_value 205 = .ok (.iload 8, 2) := by decide +kernel
theorem dX4_value_207 : decode cX4_value 207 = .ok (.iload 10, 2) := by decide +kernel
theorem dX4_value_209 : decode cX4_value 209 = .ok (.sipush 20000, 3) := by decide +kernel
theorem dX4_value_212 : decode cX4_value 212 = .ok (.isub, 1) := by decide +kernel
theorem dX4_value_213 : decode cX4_value 213 = .ok (.aload_n 0, 1) := by decide +kernel
theorem dX4_value_214 : decode cX4_value 214 = .ok (.getfield 18, 3) := by decide +kernel
theorem dX4_value_217 : decode cX4_value 217 = .ok (.iload 8, 2) := by decide +kernel
theorem dX4_value_219 : decode cX4_value 219 = .ok (.iaload, 1) := by decide +kernel
theorem dX4_value_220 : decode cX4_value 220 = .ok (.aload_n 0, 1) := by decide +kernel
theorem dX4_value_221 : decode cX4_value 221 = .ok (.getfield 18, 3) := by decide +kernel
theorem dX4_value_224 : decode cX4_value 224 = .ok (.iload 8, 2) := by decide +kernel
theorem dX4_value_226 : decode cX4_value 226 = .ok (.iload 11, 2) := by decide +kernel
theorem dX4_value_228 : decode cX4_value 228 = .ok (.iadd, 1) := by decide +kernel
theorem dX4_value_229 : decode cX4_value 229 = .ok (.iconst 1, 1) := by decide +kernel
theorem dX4_value_230 : decode cX4_value 230 = .ok (.isub, 1) := by decide +kernel
theorem dX4_value_231 : decode cX4_value 231 = .ok (.iaload, 1) := by decide +kernel
theorem dX4_value_232 : decode cX4_value 232 = .ok (.invokestatic 43, 3) := by decide +kernel
theorem dX4_value_235 : decode cX4_value 235 = .ok (.iastore, 1) := by decide +kernel
theorem dX4_value_236 : decode cX4_value 236 = .ok (.iinc 8 1, 3) := by decide +kernel
theorem dX4_value_239 : decode cX4_value 239 = .ok (.iinc 9 1, 3) := by decide +kernel
theorem dX4_value_242 : decode cX4_value 242 = .ok (.goto (-152), 3) := by decide +kernel
theorem dX4_value_245 : decode cX4_value 245 = .ok (.aload_n 0, 1) := by decide +kernel
theorem dX4_value_246 : decode cX4_value 246 = .ok (.getfield 18, 3) := by decide +kernel
theorem dX4_value_249 : decode cX4_value 249 = .ok (.iconst 0, 1) := by decide +kernel
theorem dX4_value_250 : decode cX4_value 250 = .ok (.iaload, 1) := by decide +kernel
theorem dX4_value_251 : decode cX4_value 251 = .ok (.ireturn, 1) := by decide +kernel
theorem dX4_done_0 : decode cX4_done 0 = .ok (.iload_n 0, 1) := by decide +kernel
theorem dX4_done_1 : decode cX4_done 1 = .ok (.lookupswitch 147 #[(42, 83), (43, 75), (45, 79), (60, 87), (61, 98), (265, 109), (266, 123), (267, 137)], 75) := by decide +kernel
theorem dX4_done_76 : decode cX4_done 76 = .ok (.iload_n 1, 1) := by decide +kernel
theorem dX4_done_77 : decode cX4_done 77 = .ok (.iload_n 2, 1) := by decide +kernel
theorem dX4_done_78 : decode cX4_done 78 = .ok (.iadd, 1) := by decide +kernel
theorem dX4_done_79 : decode cX4_done 79 = .ok (.ireturn, 1) := by decide +kernel
theorem dX4_done_80 : decode cX4_done 80 = .ok (.iload_n 1, 1) := by decide +kernel
theorem dX4_done_81 : decode cX4_done 81 = .ok (.iload_n 2, 1) := by decide +kernel
theorem dX4_done_82 : decode cX4_done 82 = .ok (.isub, 1) := by decide +kernel
theorem dX4_done_83 : decode cX4_done 83 = .ok (.ireturn, 1) := by decide +kernel
theorem dX4_done_84 : decode cX4_done 84 = .ok (.iload_n 1, 1) := by decide +kernel
theorem dX4_done_85 : decode cX4_done 85 = .ok (.iload_n 2, 1) := by decide +kernel
theorem dX4_done_86 : decode cX4_done 86 = .ok (.imul, 1) := by decide +kernel
theorem dX4_done_87 : decode cX4_done 87 = .ok (.ireturn, 1) := by decide +kernel
theorem dX4_done_88 : decode cX4_done 88 = .ok (.iload_n 1, 1) := by decide +kernel
theorem dX4_done_89 : decode cX4_done 89 = .ok (.iload_n 2, 1) := by decide +kernel
theorem dX4_done_90 : decode cX4_done 90 = .ok (.if_icmp .ge 7, 3) := by decide +kernel
theorem dX4_done_93 : decode cX4_done 93 = .ok (.iconst 1, 1) := by decide +kernel
theorem dX4_done_94 : decode cX4_done 94 = .ok (.goto 4, 3) := by decide +kernel
theorem dX4_done_97 : decode cX4_done 97 = .ok (.iconst 0, 1) := by decide +kernel
theorem dX4_done_98 : decode cX4_done 98 = .ok (.ireturn, 1) := by decide +kernel
theorem dX4_done_99 : decode cX4_done 99 = .ok (.iload_n 1, 1) := by decide +kernel
theorem dX4_done_100 : decode cX4_done 100 = .ok (.iload_n 2, 1) := by decide +kernel
theorem dX4_done_101 : decode cX4_done 101 = .ok (.if_icmp .ne 7, 3) := by decide +kernel
theorem dX4_done_104 : decode cX4_done 104 = .ok (.iconst 1, 1) := by decide +kernel
theorem dX4_done_105 : decode cX4_done 105 = .ok (.goto 4, 3) := by decide +kernel
theorem dX4_done_108 : decode cX4_done 108 = .ok (.iconst 0, 1) := by decide +kernel
theorem dX4_done_109 : decode cX4_done 109 = .ok (.ireturn, 1) := by decide +kernel
theorem dX4_done_110 : decode cX4_done 110 = .ok (.iload_n 1, 1) := by decide +kernel
theorem dX4_done_111 : decode cX4_done 111 = .ok (.ifCond .ne 7, 3) := by decide +kernel
theorem dX4_done_114 : decode cX4_done 114 = .ok (.iload_n 2, 1) := by decide +kernel
theorem dX4_done_115 : decode cX4_done 115 = .ok (.ifCond .eq 7, 3) := by decide +kernel
theorem dX4_done_118 : decode cX4_done 118 = .ok (.iconst 1, 1) := by decide +kernel
theorem dX4_done_119 : decode cX4_done 119 = .ok (.goto 4, 3) := by decide +kernel
theorem dX4_done_122 : decode cX4_done 122 = .ok (.iconst 0, 1) := by decide +kernel
theorem dX4_done_123 : decode cX4_done 123 = .ok (.ireturn, 1) := by decide +kernel
theorem dX4_done_124 : decode cX4_done 124 = .ok (.iload_n 1, 1) := by decide +kernel
theorem dX4_done_125 : decode cX4_done 125 = .ok (.ifCond .eq 11, 3) := by decide +kernel
theorem dX4_done_128 : decode cX4_done 128 = .ok (.iload_n 2, 1) := by decide +kernel
theorem dX4_done_129 : decode cX4_done 129 = .ok (.ifCond .eq 7, 3) := by decide +kernel
theorem dX4_done_132 : decode cX4_done 132 = .ok (.iconst 1, 1) := by decide +kernel
theorem dX4_done_133 : decode cX4_done 133 = .ok (.goto 4, 3) := by decide +kernel
theorem dX4_done_136 : decode cX4_done 136 = .ok (.iconst 0, 1) := by decide +kernel
theorem dX4_done_137 : decode cX4_done 137 = .ok (.ireturn, 1) := by decide +kernel
theorem dX4_done_138 : decode cX4_done 138 = .ok (.iload_n 1, 1) := by decide +kernel
theorem dX4_done_139 : decode cX4_done 139 = .ok (.ifCond .ne 7, 3) := by decide +kernel
theorem dX4_done_142 : decode cX4_done 142 = .ok (.iconst 1, 1) := by decide +kernel
theorem dX4_done_143 : decode cX4_done 143 = .ok (.goto 4, 3) := by decide +kernel
theorem dX4_done_146 : decode cX4_done 146 = .ok (.iconst 0, 1) := by decide +kernel
theorem dX4_done_147 : decode cX4_done 147 = .ok (.ireturn, 1) := by decide +kernel
theorem dX4_done_148 : decode cX4_done 148 = .ok (.iload_n 1, 1) := by decide +kernel
theorem dX4_done_149 : decode cX4_done 149 = .ok (.ineg, 1) := by decide +kernel
theorem dX4_done_150 : decode cX4_done 150 = .ok (.ireturn, 1) := by decide +kernel
end
section
theorem dX5_init_0 : decode cX5_init 0 = .ok (.aload_n 0, 1) := by decide +kernel
theorem dX5_init_1 : decode cX5_init 1 = .ok (.invokespecial 3, 3) := by decide +kernel
theorem dX5_init_4 : decode cX5_init 4 = .ok (.new 9, 3) := by decide +kernel
theorem dX5_init_7 : decode cX5_init 7 = .ok (.dup, 1) := by decide +kernel
theorem dX5_init_8 : decode cX5_init 8 = .ok (.invokespecial 11, 3) := by decide +kernel
theorem dX5_init_11 : decode cX5_init 11 = .ok (.astore_n 1, 1) := by decide +kernel
theorem dX5_init_12 : decode cX5_init 12 = .ok (.aload_n 0, 1) := by decide +kernel
theorem dX5_init_13 : decode cX5_init 13 = .ok (.aload_n 1, 1) := by decide +kernel
theorem dX5_init_14 : decode cX5_init 14 = .ok (.putfield 12, 3) := by decide +kernel
theorem dX5_init_17 : decode cX5_init 17 = .ok (.aload_n 0, 1) := by decide +kernel
theorem dX5_init_18 : decode cX5_init 18 = .ok (.new 16, 3) := by decide +kernel
theorem dX5_init_21 : decode cX5_init 21 = .ok (.dup, 1) := by decide +kernel
theorem dX5_init_22 : decode cX5_init 22 = .ok (.aload_n 1, 1) := by decide +kernel
theorem dX5_init_23 : decode cX5_init 23 = .ok (.invokespecial 18, 3) := by decide +kernel
theorem dX5_init_26 : decode cX5_init 26 = .ok (.putfield 21, 3) := by decide +kernel
theorem dX5_init_29 : decode cX5_init 29 = .ok (.aload_n 0, 1) := by decide +kernel
theorem dX5_init_30 : decode cX5_init 30 = .ok (.new 25, 3) := by decide +kernel
theorem dX5_init_33 : decode cX5_init 33 = .ok (.dup, 1) := by decide +kernel
theorem dX5_init_34 : decode cX5_init 34 = .ok (.aload_n 1, 1) := by decide +kernel
theorem dX5_init_35 : decode cX5_init 35 = .ok (.invokespecial 27, 3) := by decide +kernel
theorem dX5_init_38 : decode cX5_init 38 = .ok (.putfield 28, 3) := by decide +kernel
theorem dX5_init_41 : decode cX5_init 41 = .ok (.aload_n 0, 1) := by decide +kernel
theorem dX5_init_42 : decode cX5_init 42 = .ok (.new 25, 3) := by decide +kernel
theorem dX5_init_45 : decode cX5_init 45 = .ok (.dup, 1) := by decide +kernel
theorem dX5_init_46 : decode cX5_init 46 = .ok (.aload_n 1, 1) := by decide +kernel
theorem dX5_init_47 : decode cX5_init 47 = .ok (.invokespecial 27, 3) := by decide +kernel
theorem dX5_init_50 : decode cX5_init 50 = .ok (.putfield 32, 3) := by decide +kernel
theorem dX5_init_53 : decode cX5_init 53 = .ok (.aload_n 0, 1) := by decide +kernel
theorem dX5_init_54 : decode cX5_init 54 = .ok (.new 25, 3) := by decide +kernel
theorem dX5_init_57 : decode cX5_init 57 = .ok (.dup, 1) := by decide +kernel
theorem dX5_init_58 : decode cX5_init 58 = .ok (.aload_n 1, 1) := by decide +kernel
theorem dX5_init_59 : decode cX5_init 59 = .ok (.invokespecial 27, 3) := by decide +kernel
theorem dX5_init_62 : decode cX5_init 62 = .ok (.putfield 35, 3) := by decide +kernel
theorem dX5_init_65 : decode cX5_init 65 = .ok (.aload_n 0, 1) := by decide +kernel
theorem dX5_init_66 : decode cX5_init 66 = .ok (.new 38, 3) := by decide +kernel
theorem dX5_init_69 : decode cX5_init 69 = .ok (.dup, 1) := by decide +kernel
theorem dX5_init_70 : decode cX5_init 70 = .ok (.invokespecial 40, 3) := by decide +kernel
theorem dX5_init_73 : decode cX5_init 73 = .ok (.putfield 41, 3) := by decide +kernel
theorem dX5_init_76 : decode cX5_init 76 = .ok (.aload_n 0, 1) := by decide +kernel
theorem dX5_init_77 : decode cX5_init 77 = .ok (.iconst 4, 1) := by decide +kernel
theorem dX5_init_78 : decode cX5_init 78 = .ok (.anewarray 45, 3) := by decide +kernel
theorem dX5_init_81 : decode cX5_init 81 = .ok (.putfield 47, 3) := by decide +kernel
theorem dX5_init_84 : decode cX5_init 84 = .ok (.iconst 0, 1) := by decide +kernel
theorem dX5_init_85 : decode cX5_init 85 = .ok (.istore_n 2, 1) := by decide +kernel
theorem dX5_init_86 : decode cX5_init 86 = .ok (.iload_n 2, 1) := by decide +kernel
theorem dX5_init_87 : decode cX5_init 87 = .ok (.iconst 4, 1) := by decide +kernel
theorem dX5_init_88 : decode cX5_init 88 = .ok (.if_icmp .ge 22, 3) := by decide +kernel
theorem dX5_init_91 : decode cX5_init 91 = .ok (.aload_n 0, 1) := by decide +kernel
theorem dX5_init_92 : decode cX5_init 92 = .ok (.getfield 47, 3) := by decide +kernel
theorem dX5_init_95 : decode cX5_init 95 = .ok (.iload_n 2, 1) := by decide +kernel
theorem dX5_init_96 : decode cX5_init 96 = .ok (.new 45, 3) := by decide +kernel
theorem dX5_init_99 : decode cX5_init 99 = .ok (.dup, 1) := by decide +kernel
theorem dX5_init_100 : decode cX5_init 100 = .ok (.invokespecial 51, 3) := by decide +kernel
theorem dX5_init_103 : decode cX5_init 103 = .ok (.aastore, 1) := by decide +kernel
theorem dX5_init_104 : decode cX5_init 104 = .ok (.iinc 2 1, 3) := by decide +kernel
theorem dX5_init_107 : decode cX5_init 107 = .ok (.goto (-21), 3) := by decide +kernel
theorem dX5_init_110 : decode cX5_init 110 = .ok (.iconst 0, 1) := by decide +kernel
theorem dX5_init_111 : decode cX5_init 111 = .ok (.istore_n 2, 1) := by decide +kernel
theorem dX5_init_112 : decode cX5_init 112 = .ok (.iload_n 2, 1) := by decide +kernel
theorem dX5_init_113 : decode cX5_init 113 = .ok (.ldc 52, 2) := by decide +kernel
theorem dX5_init_115 : decode cX5_init 115 = .ok (.invokevirtual 54, 3) := by decide +kernel
theorem dX5_init_118 : decode cX5_init 118 = .ok (.if_icmp .ge 23, 3) := by decide +kernel
theorem dX5_init_121 : decode cX5_init 121 = .ok (.aload_n 0, 1) := by decide +kernel
theorem dX5_init_122 : decode cX5_init 122 = .ok (.getfield 21, 3) := by decide +kernel
theorem dX5_init_125 : decode cX5_init 125 = .ok (.ldc 52, 2) := by decide +kernel
theorem dX5_init_127 : decode cX5_init 127 = .ok (.iload_n 2, 1) := by decide +kernel
theorem dX5_init_128 : decode cX5_init 128 = .ok (.invokevirtual 60, 3) := by decide +kernel
theorem dX5_init_131 : decode cX5_init 131 = .ok (.invokevirtual 64, 3) := by decide +kernel
theorem dX5_init_134 : decode cX5_init 134 = .ok (.pop, 1) := by decide +kernel
theorem dX5_init_135 : decode cX5_init 135 = .ok (.iinc 2 1, 3) := by decide +kernel
theorem dX5_init_138 : decode cX5_init 138 = .ok (.goto (-26), 3) := by decide +kernel
theorem dX5_init_141 : decode cX5_init 141 = .ok (.aload_n 0, 1) := by decide +kernel
theorem dX5_init_142 : decode cX5_init 142 = .ok (.getfield 21, 3) := by decide +kernel
theorem dX5_init_145 : decode cX5_init 145 = .ok (.invokevirtual 68, 3) := by decide +kernel
theorem dX5_init_148 : decode cX5_init 148 = .ok (.pop, 1) := by decide +kernel
theorem dX5_init_149 : decode cX5_init 149 = .ok (.return_, 1) := by decide +kernel
theorem dX5_set_0 : decode cX5_set 0 = .ok (.iload_n 1, 1) := by decide +kernel
theorem dX5_set_1 : decode cX5_set 1 = .ok (.ifCond .lt 20, 3) := by decide +kernel
theorem dX5_set_4 : decode cX5_set 4 = .ok (.iload_n 1, 1) := by decide +kernel
theorem dX5_set_5 : decode cX5_set 5 = .ok (.iconst 3, 1) := by decide +kernel
theorem dX5_set_6 : decode cX5_set 6 = .ok (.if_icmp .gt 15, 3) := by decide +kernel
theorem dX5_set_9 : decode cX5_set 9 = .ok (.iload_n 3, 1) := by decide +kernel
theorem dX5_set_10 : decode cX5_set 10 = .ok (.ifCond .lt 11, 3) := by decide +kernel
theorem dX5_set_13 : decode cX5_set 13 = .ok (.iload_n 3, 1) := by decide +kernel
theorem dX5_set_14 : decode cX5_set 14 = .ok (.iload_n 1, 1) := by decide +kernel
theorem dX5_set_15 : decode cX5_set 15 = .ok (.invokestatic 71, 3) := by decide +kernel
theorem dX5_set_18 : decode cX5_set 18 = .ok (.if_icmp .le 6, 3) := by decide +kernel
theorem dX5_set_21 : decode cX5_set 21 = .ok (.bipush (-2), 2) := by decide +kernel
theorem dX5_set_23 : decode cX5_set 23 = .ok (.ireturn, 1) := by decide +kernel
theorem dX5_set_24 : decode cX5_set 24 = .ok (.iload_n 1, 1) := by decide +kernel
theorem dX5_set_25 : decode cX5_set 25 = .ok (.iconst 2, 1) := by decide +kernel
theorem dX5_set_26 : decode cX5_set 26 = .ok (.if_icmp .lt 17, 3) := by decide +kernel
theorem dX5_set_29 : decode cX5_set 29 = .ok (.aload_n 0, 1) := by decide +kernel
theorem dX5_set_30 : decode cX5_set 30 = .ok (.getfield 28, 3) := by decide +kernel
theorem dX5_set_33 : decode cX5_set 33 = .ok (.iload_n 2, 1) := by decide +kernel
theorem dX5_set_34 : decode cX5_set 34 = .ok (.invokevirtual 75, 3) := by decide +kernel
theorem dX5_set_37 : decode cX5_set 37 = .ok (.ifCond .ne 6, 3) := by decide +kernel
theorem dX5_set_40 : decode cX5_set 40 = .ok (.bipush (-2), 2) := by decide +kernel
theorem dX5_set_42 : decode cX5_set 42 = .ok (.ireturn, 1) := by decide +kernel
theorem dX5_set_43 : decode cX5_set 43 = .ok (.aload_n 0, 1) := by decide +kernel
theorem dX5_set_44 : decode cX5_set 44 = .ok (.getfield 28, 3) := by decide +kernel
theorem dX5_set_47 : decode cX5_set 47 = .ok (.iload_n 1, 1) := by decide +kernel
theorem dX5_set_48 : decode cX5_set 48 = .ok (.iload_n 2, 1) := by decide +kernel
theorem dX5_set_49 : decode cX5_set 49 = .ok (.invokevirtual 78, 3) := by decide +kernel
theorem dX5_set_52 : decode cX5_set 52 = .ok (.istore 4, 2) := by decide +kernel
theorem dX5_set_54 : decode cX5_set 54 = .ok (.aload_n 0, 1) := by decide +kernel
theorem dX5_set_55 : decode cX5_set 55 = .ok (.getfield 28, 3) := by decide +kernel
theorem dX5_set_58 : decode cX5_set 58 = .ok (.iload_n 1, 1) := by decide +kernel
theorem dX5_set_59 : decode cX5_set 59 = .ok (.iload_n 2, 1) := by decide +kernel
theorem dX5_set_60 : decode cX5_set 60 = .ok (.iload_n 3, 1) := by decide +kernel
theorem dX5_set_61 : decode cX5_set 61 = .ok (.invokevirtual 82, 3) := by decide +kernel
theorem dX5_set_64 : decode cX5_set 64 = .ok (.iload 4, 2) := by decide +kernel
theorem dX5_set_66 : decode cX5_set 66 = .ok (.ireturn, 1) := by decide +kernel
theorem dX5_man_0 : decode cX5_man 0 = .ok (.aload_n 0, 1) := by decide +kernel
theorem dX5_man_1 : decode cX5_man 1 = .ok (.getfield 28, 3) := by decide +kernel
theorem dX5_man_4 : decode cX5_man 4 = .ok (.iload_n 1, 1) := by decide +kernel
theorem dX5_man_5 : decode cX5_man 5 = .ok (.iload_n 2, 1) := by decide +kernel
theorem dX5_man_6 : decode cX5_man 6 = .ok (.iload_n 3, 1) := by decide +kernel
theorem dX5_man_7 : decode cX5_man 7 = .ok (.invokevirtual 86, 3) := by decide +kernel
theorem dX5_man_10 : decode cX5_man 10 = .ok (.ireturn, 1) := by decide +kernel
theorem dX5_told_0 : decode cX5_told 0 = .ok (.iload_n 2, 1) := by decide +kernel
theorem dX5_told_1 : decode cX5_told 1 = .ok (.tableswitch 197 0 8 #[51, 51, 61, 61, 61, 88, 114, 140, 167], 51) := by decide +kernel
theorem dX5_told_52 : decode cX5_told 52 = .ok (.aload_n 0, 1) := by decide +kernel
theorem dX5_told_53 : decode cX5_told 53 = .ok (.getfield 28, 3) := by decide +kernel
theorem dX5_told_56 : decode cX5_told 56 = .ok (.iload_n 2, 1) := by decide +kernel
theorem dX5_told_57 : decode cX5_told 57 = .ok (.iload_n 1, 1) := by decide +kernel
theorem dX5_told_58 : decode cX5_told 58 = .ok (.invokevirtual 78, 3) := by decide +kernel
theorem dX5_told_61 : decode cX5_told 61 = .ok (.ireturn, 1) := by decide +kernel
theorem dX5_told_62 : decode cX5_told 62 = .ok (.aload_n 0, 1) := by decide +kernel
theorem dX5_told_63 : decode cX5_told 63 = .ok (.getfield 28, 3) := by decide +kernel
theorem dX5_told_66 : decode cX5_told 66 = .ok (.iload_n 1, 1) := by decide +kernel
theorem dX5_told_67 : decode cX5_told 67 = .ok (.invokevirtual 75, 3) := by decide +kernel
theorem dX5_told_70 : decode cX5_told 70 = .ok (.ifCond .eq 15, 3) := by decide +kernel
theorem dX5_told_73 : decode cX5_told 73 = .ok (.aload_n 0, 1) := by decide +kernel
theorem dX5_told_74 : decode cX5_told 74 = .ok (.getfield 28, 3) := by decide +kernel
theorem dX5_told_77 : decode cX5_told 77 = .ok (.iload_n 2, 1) := by decide +kernel
theorem dX5_told_78 : decode cX5_told 78 = .ok (.iload_n 1, 1) := by decide +kernel
theorem dX5_told_79 : decode cX5_told 79 = .ok (.invokevirtual 78, 3) := by decide +kernel
theorem dX5_told_82 : decode cX5_told 82 = .ok (.goto 6, 3) := by decide +kernel
theorem dX5_told_85 : decode cX5_told 85 = .ok (.sipush (-1000), 3) := by decide +kernel
theorem dX5_told_88 : decode cX5_told 88 = .ok (.ireturn, 1) := by decide +kernel
theorem dX5_told_89 : decode cX5_told 89 = .ok (.aload_n 0, 1) := by decide +kernel
theorem dX5_told_90 : decode cX5_told 90 = .ok (.getfield 28, 3) := by decide +kernel
theorem dX5_told_93 : decode cX5_told 93 = .ok (.iload_n 1, 1) := by decide +kernel
theorem dX5_told_94 : decode cX5_told 94 = .ok (.invokevirtual 75, 3) := by decide +kernel
theorem dX5_told_97 : decode cX5_told 97 = .ok (.ifCond .eq 14, 3) := by decide +kernel
theorem dX5_told_100 : decode cX5_told 100 = .ok (.aload_n 0, 1) := by decide +kernel
theorem dX5_told_101 : decode cX5_told 101 = .ok (.getfield 28, 3) := by decide +kernel
theorem dX5_told_104 : decode cX5_told 104 = .ok (.iload_n 1, 1) := by decide +kernel
theorem dX5_told_105 : decode cX5_told 105 = .ok (.invokevirtual 90, 3) := by decide +kernel
theorem dX5_told_108 : decode cX5_told 108 = .ok (.goto 6, 3) := by decide +kernel
theorem dX5_told_111 : decode cX5_told 111 = .ok (.sipush (-1000), 3) := by decide +kernel
theorem dX5_told_114 : decode cX5_told 114 = .ok (.ireturn, 1) := by decide +kernel
theorem dX5_told_115 : decode cX5_told 115 = .ok (.aload_n 0, 1) := by decide +kernel
theorem dX5_told_116 : decode cX5_told 116 = .ok (.getfield 28, 3) := by decide +kernel
theorem dX5_told_119 : decode cX5_told 119 = .ok (.iload_n 1, 1) := by decide +kernel
theorem dX5_told_120 : decode cX5_told 120 = .ok (.invokevirtual 75, 3) := by decide +kernel
theorem dX5_told_123 : decode cX5_told 123 = .ok (.ifCond .eq 14, 3) := by decide +kernel
theorem dX5_told_126 : decode cX5_told 126 = .ok (.aload_n 0, 1) := by decide +kernel
theorem dX5_told_127 : decode cX5_told 127 = .ok (.getfield 28, 3) := by decide +kernel
theorem dX5_told_130 : decode cX5_told 130 = .ok (.iload_n 1, 1) := by decide +kernel
theorem dX5_told_131 : decode cX5_told 131 = .ok (.invokevirtual 93, 3) := by decide +kernel
theorem dX5_told_134 : decode cX5_told 134 = .ok (.goto 6, 3) := by decide +kernel
theorem dX5_told_137 : decode cX5_told 137 = .ok (.sipush (-1000), 3) := by decide +kernel
theorem dX5_told_140 : decode cX5_told 140 = .ok (.ireturn, 1) := by decide +kernel
theorem dX5_told_141 : decode cX5_told 141 = .ok (.aload_n 0, 1) := by decide +kernel
theorem dX5_told_142 : decode cX5_told 142 = .ok (.getfield 28, 3) := by decide +kernel
theorem dX5_told_145 : decode cX5_told 145 = .ok (.iload_n 1, 1) := by decide +kernel
theorem dX5_told_146 : decode cX5_told 146 = .ok (.invokevirtual 96, 3) := by decide +kernel
theorem dX5_told_149 : decode cX5_told 149 = .ok (.iconst (-1), 1) := by decide +kernel
theorem dX5_told_150 : decode cX5_told 150 = .ok (.if_icmp .eq 14, 3) := by decide +kernel
theorem dX5_told_153 : decode cX5_told 153 = .ok (.aload_n 0, 1) := by decide +kernel
theorem dX5_told_154 : decode cX5_told 154 = .ok (.getfield 28, 3) := by decide +kernel
theorem dX5_told_157 : decode cX5_told 157 = .ok (.iload_n 1, 1) := by decide +kernel
theorem dX5_told_158 : decode cX5_told 158 = .ok (.invokevirtual 96, 3) := by decide +kernel
theorem dX5_told_161 : decode cX5_told 161 = .ok (.goto 6, 3) := by decide +kernel
theorem dX5_told_164 : decode cX5_told 164 = .ok (.sipush (-1000), 3) := by decide +kernel
theorem dX5_told_167 : decode cX5_told 167 = .ok (.ireturn, 1) := by decide +kernel
theorem dX5_told_168 : decode cX5_told 168 = .ok (.iload_n 1, 1) := by decide +kernel
theorem dX5_told_169 : decode cX5_told 169 = .ok (.ifCond .lt 25, 3) := by decide +kernel
theorem dX5_told_172 : decode cX5_told 172 = .ok (.iload_n 1, 1) := by decide +kernel
theorem dX5_told_173 : decode cX5_told 173 = .ok (.aload_n 0, 1) := by decide +kernel
theorem dX5_told_174 : decode cX5_told 174 = .ok (.getfield 28, 3) := by decide +kernel
theorem dX5_told_177 : decode cX5_told 177 = .ok (.invokevirtual 99, 3) := by decide +kernel
theorem dX5_told_180 : decode cX5_told 180 = .ok (.if_icmp .ge 14, 3) := by decide +kernel
theorem dX5_told_183 : decode cX5_told 183 = .ok (.aload_n 0, 1) := by decide +kernel
theorem dX5_told_184 : decode cX5_told 184 = .ok (.getfield 28, 3) := by decide +kernel
theorem dX5_told_187 : decode cX5_told 187 = .ok (.iload_n 1, 1) := by decide +kernel
theorem dX5_told_188 : decode cX5_told 188 = .ok (.invokevirtual 102, 3) := by decide +kernel
theorem dX5_told_191 : decode cX5_told 191 = .ok (.goto 6, 3) := by decide +kernel
theorem dX5_told_194 : decode cX5_told 194 = .ok (.sipush (-1000), 3) := by decide +kernel
theorem dX5_told_197 : decode cX5_told 197 = .ok (.ireturn, 1) := by decide +kernel
theorem dX5_told_198 : decode cX5_told 198 = .ok (.sipush (-1000), 3) := by decide +kernel
theorem dX5_told_201 : decode cX5_told 201 = .ok (.ireturn, 1) := by decide +kernel
theorem dX5_grips_0 : decode cX5_grips 0 = .ok (.aload_n 0, 1) := by decide +kernel
theorem dX5_grips_1 : decode cX5_grips 1 = .ok (.getfield 28, 3) := by decide +kernel
theorem dX5_grips_4 : decode cX5_grips 4 = .ok (.iload_n 1, 1) := by decide +kernel
theorem dX5_grips_5 : decode cX5_grips 5 = .ok (.invokevirtual 75, 3) := by decide +kernel
theorem dX5_grips_8 : decode cX5_grips 8 = .ok (.ifCond .eq 19, 3) := by decide +kernel
theorem dX5_grips_11 : decode cX5_grips 11 = .ok (.aload_n 0, 1) := by decide +kernel
theorem dX5_grips_12 : decode cX5_grips 12 = .ok (.getfield 28, 3) := by decide +kernel
theorem dX5_grips_15 : decode cX5_grips 15 = .ok (.iload_n 2, 1) := by decide +kernel
theorem dX5_grips_16 : decode cX5_grips 16 = .ok (.invokevirtual 75, 3) := by decide +kernel
theorem dX5_grips_19 : decode cX5_grips 19 = .ok (.ifCond .eq 8, 3) := by decide +kernel
theorem dX5_grips_22 : decode cX5_grips 22 = .ok (.iload_n 1, 1) := by decide +kernel
theorem dX5_grips_23 : decode cX5_grips 23 = .ok (.iload_n 2, 1) := by decide +kernel
theorem dX5_grips_24 : decode cX5_grips 24 = .ok (.if_icmp .ne 6, 3) := by decide +kernel
theorem dX5_grips_27 : decode cX5_grips 27 = .ok (.bipush (-2), 2) := by decide +kernel
theorem dX5_grips_29 : decode cX5_grips 29 = .ok (.ireturn, 1) := by decide +kernel
theorem dX5_grips_30 : decode cX5_grips 30 = .ok (.aload_n 0, 1) := by decide +kernel
theorem dX5_grips_31 : decode cX5_grips 31 = .ok (.getfield 28, 3) := by decide +kernel
theorem dX5_grips_34 : decode cX5_grips 34 = .ok (.iload_n 1, 1) := by decide +kernel
theorem dX5_grips_35 : decode cX5_grips 35 = .ok (.iload_n 2, 1) := by decide +kernel
theorem dX5_grips_36 : decode cX5_grips 36 = .ok (.invokevirtual 105, 3) := by decide +kernel
theorem dX5_grips_39 : decode cX5_grips 39 = .ok (.ireturn, 1) := by decide +kernel
theorem dX5_hands_0 : decode cX5_hands 0 = .ok (.aload_n 0, 1) := by decide +kernel
theorem dX5_hands_1 : decode cX5_hands 1 = .ok (.getfield 28, 3) := by decide +kernel
theorem dX5_hands_4 : decode cX5_hands 4 = .ok (.iload_n 1, 1) := by decide +kernel
theorem dX5_hands_5 : decode cX5_hands 5 = .ok (.invokevirtual 75, 3) := by decide +kernel
theorem dX5_hands_8 : decode cX5_hands 8 = .ok (.ifCond .eq 13, 3) := by decide +kernel
theorem dX5_hands_11 : decode cX5_hands 11 = .ok (.iload_n 2, 1) := by decide +kernel
theorem dX5_hands_12 : decode cX5_hands 12 = .ok (.ifCond .lt 9, 3) := by decide +kernel
theorem dX5_hands_15 : decode cX5_hands 15 = .ok (.iload_n 2, 1) := by decide +kernel
theorem dX5_hands_16 : decode cX5_hands 16 = .ok (.bipush 99, 2) := by decide +kernel
theorem dX5_hands_18 : decode cX5_hands 18 = .ok (.if_icmp .le 6, 3) := by decide +kernel
theorem dX5_hands_21 : decode cX5_hands 21 = .ok (.bipush (-2), 2) := by decide +kernel
theorem dX5_hands_23 : decode cX5_hands 23 = .ok (.ireturn, 1) := by decide +kernel
theorem dX5_hands_24 : decode cX5_hands 24 = .ok (.aload_n 0, 1) := by decide +kernel
theorem dX5_hands_25 : decode cX5_hands 25 = .ok (.getfield 28, 3) := by decide +kernel
theorem dX5_hands_28 : decode cX5_hands 28 = .ok (.iload_n 1, 1) := by decide +kernel
theorem dX5_hands_29 : decode cX5_hands 29 = .ok (.iload_n 2, 1) := by decide +kernel
theorem dX5_hands_30 : decode cX5_hands 30 = .ok (.invokevirtual 108, 3) := by decide +kernel
theorem dX5_hands_33 : decode cX5_hands 33 = .ok (.ireturn, 1) := by decide +kernel
theorem dX5_feed_0 : decode cX5_feed 0 = .ok (.iload_n 1, 1) := by decide +kernel
theorem dX5_feed_1 : decode cX5_feed 1 = .ok (.ifCond .lt 10, 3) := by decide +kernel
theorem dX5_feed_4 : decode cX5_feed 4 = .ok (.iload_n 1, 1) := by decide +kernel
theorem dX5_feed_5 : decode cX5_feed 5 = .ok (.sipush 255, 3) := by decide +kernel
theorem dX5_feed_8 : decode cX5_feed 8 = .ok (.if_icmp .le 6, 3) := by decide +kernel
theorem dX5_feed_11 : decode cX5_feed 11 = .ok (.bipush (-2), 2) := by decide +kernel
theorem dX5_feed_13 : decode cX5_feed 13 = .ok (.ireturn, 1) := by decide +kernel
theorem dX5_feed_14 : decode cX5_feed 14 = .ok (.aload_n 0, 1) := by decide +kernel
theorem dX5_feed_15 : decode cX5_feed 15 = .ok (.getfield 21, 3) := by decide +kernel
theorem dX5_feed_18 : decode cX5_feed 18 = .ok (.iload_n 1, 1) := by decide +kernel
theorem dX5_feed_19 : decode cX5_feed 19 = .ok (.invokevirtual 64, 3) := by decide +kernel
theorem dX5_feed_22 : decode cX5_feed 22 = .ok (.ifCond .eq 13, 3) := by decide +kernel
theorem dX5_feed_25 : decode cX5_feed 25 = .ok (.aload_n 0, 1) := by decide +kernel
theorem dX5_feed_26 : decode cX5_feed 26 = .ok (.getfield 21, 3) := by decide +kernel
theorem dX5_feed_29 : decode cX5_feed 29 = .ok (.getfield 111, 3) := by decide +kernel
theorem dX5_feed_32 : decode cX5_feed 32 = .ok (.goto 5, 3) := by decide +kernel
theorem dX5_feed_35 : decode cX5_feed 35 = .ok (.bipush (-4), 2) := by decide +kernel
theorem dX5_feed_37 : decode cX5_feed 37 = .ok (.ireturn, 1) := by decide +kernel
theorem dX5_text_0 : decode cX5_text 0 = .ok (.aload_n 0, 1) := by decide +kernel
theorem dX5_text_1 : decode cX5_text 1 = .ok (.getfield 12, 3) := by decide +kernel
theorem dX5_text_4 : decode cX5_text 4 = .ok (.getfield 115, 3) := by decide +kernel
theorem dX5_text_7 : decode cX5_text 7 = .ok (.bipush 6, 2) := by decide +kernel
theorem dX5_text_9 : decode cX5_text 9 = .ok (.if_icmp .lt 6, 3) := by decide +kernel
theorem dX5_text_12 : decode cX5_text 12 = .ok (.bipush (-4), 2) := by decide +kernel
theorem dX5_text_14 : decode cX5_text 14 = .ok (.ireturn, 1) := by decide +kernel
theorem dX5_text_15 : decode cX5_text 15 = .ok (.aload_n 0, 1) := by decide +kernel
theorem dX5_text_16 : decode cX5_text 16 = .ok (.getfield 21, 3) := by decide +kernel
theorem dX5_text_19 : decode cX5_text 19 = .ok (.invokevirtual 68, 3) := by decide +kernel
theorem dX5_text_22 : decode cX5_text 22 = .ok (.istore_n 1, 1) := by decide +kernel
theorem dX5_text_23 : decode cX5_text 23 = .ok (.iload_n 1, 1) := by decide +kernel
theorem dX5_text_24 : decode cX5_text 24 = .ok (.iconst (-1), 1) := by decide +kernel
theorem dX5_text_25 : decode cX5_text 25 = .ok (.if_icmp .ne 15, 3) := by decide +kernel
theorem dX5_text_28 : decode cX5_text 28 = .ok (.aload_n 0, 1) := by decide +kernel
theorem dX5_text_29 : decode cX5_text 29 = .ok (.getfield 12, 3) := by decide +kernel
theorem dX5_text_32 : decode cX5_text 32 = .ok (.getfield 115, 3) := by decide +kernel
theorem dX5_text_35 : decode cX5_text 35 = .ok (.iconst 1, 1) := by decide +kernel
theorem dX5_text_36 : decode cX5_text 36 = .ok (.isub, 1) := by decide +kernel
theorem dX5_text_37 : decode cX5_text 37 = .ok (.goto 7, 3) := by decide +kernel
theorem dX5_text_40 : decode cX5_text 40 = .ok (.bipush (-100), 2) := by decide +kernel
theorem dX5_text_42 : decode cX5_text 42 = .ok (.iload_n 1, 1) := by decide +kernel
theorem dX5_text_43 : decode cX5_text 43 = .ok (.isub, 1) := by decide +kernel
theorem dX5_text_44 : decode cX5_text 44 = .ok (.ireturn, 1) := by decide +kernel
theorem dX5_force_0 : decode cX5_force 0 = .ok (.iload_n 1, 1) := by decide +kernel
theorem dX5_force_1 : decode cX5_force 1 = .ok (.ifCond .lt 14, 3) := by decide +kernel
theorem dX5_force_4 : decode cX5_force 4 = .ok (.iload_n 1, 1) := by decide +kernel
theorem dX5_force_5 : decode cX5_force 5 = .ok (.aload_n 0, 1) := by decide +kernel
theorem dX5_force_6 : decode cX5_force 6 = .ok (.getfield 12, 3) := by decide +kernel
theorem dX5_force_9 : decode cX5_force 9 = .ok (.getfield 115, 3) := by decide +kernel
theorem dX5_force_12 : decode cX5_force 12 = .ok (.if_icmp .lt 6, 3) := by decide +kernel
theorem dX5_force_15 : decode cX5_force 15 = .ok (.bipush (-2), 2) := by decide +kernel
theorem dX5_force_17 : decode cX5_force 17 = .ok (.ireturn, 1) := by decide +kernel
theorem dX5_force_18 : decode cX5_force 18 = .ok (.aload_n 0, 1) := by decide +kernel
theorem dX5_force_19 : decode cX5_force 19 = .ok (.getfield 28, 3) := by decide +kernel
theorem dX5_force_22 : decode cX5_force 22 = .ok (.getfield 118, 3) := by decide +kernel
theorem dX5_force_25 : decode cX5_force 25 = .ok (.istore_n 2, 1) := by decide +kernel
theorem dX5_force_26 : decode cX5_force 26 = .ok (.aload_n 0, 1) := by decide +kernel
theorem dX5_force_27 : decode cX5_force 27 = .ok (.getfield 28, 3) := by decide +kernel
theorem dX5_force_30 : decode cX5_force 30 = .ok (.iload_n 1, 1) := by decide +kernel
theorem dX5_force_31 : decode cX5_force 31 = .ok (.putfield 118, 3) := by decide +kernel
theorem dX5_force_34 : decode cX5_force 34 = .ok (.iload_n 2, 1) := by decide +kernel
theorem dX5_force_35 : decode cX5_force 35 = .ok (.ireturn, 1) := by decide +kernel
theorem dX5_out_0 : decode cX5_out 0 = .ok (.aload_n 0, 1) := by decide +kernel
theorem dX5_out_1 : decode cX5_out 1 = .ok (.getfield 28, 3) := by decide +kernel
theorem dX5_out_4 : decode cX5_out 4 = .ok (.iload_n 1, 1) := by decide +kernel
theorem dX5_out_5 : decode cX5_out 5 = .ok (.invokevirtual 75, 3) := by decide +kernel
theorem dX5_out_8 : decode cX5_out 8 = .ok (.ifCond .ne 6, 3) := by decide +kernel
theorem dX5_out_11 : decode cX5_out 11 = .ok (.bipush (-2), 2) := by decide +kernel
theorem dX5_out_13 : decode cX5_out 13 = .ok (.ireturn, 1) := by decide +kernel
theorem dX5_out_14 : decode cX5_out 14 = .ok (.aload_n 0, 1) := by decide +kernel
theorem dX5_out_15 : decode cX5_out 15 = .ok (.getfield 28, 3) := by decide +kernel
theorem dX5_out_18 : decode cX5_out 18 = .ok (.iload_n 1, 1) := by decide +kernel
theorem dX5_out_19 : decode cX5_out 19 = .ok (.invokevirtual 90, 3) := by decide +kernel
theorem dX5_out_22 : decode cX5_out 22 = .ok (.istore_n 2, 1) := by decide +kernel
theorem dX5_out_23 : decode cX5_out 23 = .ok (.iload_n 2, 1) := by decide +kernel
theorem dX5_out_24 : decode cX5_out 24 = .ok (.iconst (-1), 1) := by decide +kernel
theorem dX5_out_25 : decode cX5_out 25 = .ok (.if_icmp .ne 6, 3) := by decide +kernel
theorem dX5_out_28 : decode cX5_out 28 = .ok (.bipush (-3), 2) := by decide +kernel
theorem dX5_out_30 : decode cX5_out 30 = .ok (.ireturn, 1) := by decide +kernel
theorem dX5_out_31 : decode cX5_out 31 = .ok (.aload_n 0, 1) := by decide +kernel
theorem dX5_out_32 : decode cX5_out 32 = .ok (.getfield 28, 3) := by decide +kernel
theorem dX5_out_35 : decode cX5_out 35 = .ok (.iload_n 2, 1) := by decide +kernel
theorem dX5_out_36 : decode cX5_out 36 = .ok (.invokevirtual 121, 3) := by decide +kernel
theorem dX5_out_39 : decode cX5_out 39 = .ok (.iload_n 2, 1) := by decide +kernel
theorem dX5_out_40 : decode cX5_out 40 = .ok (.ireturn, 1) := by decide +kernel
theorem dX5_into_0 : decode cX5_into 0 = .ok (.aload_n 0, 1) := by decide +kernel
theorem dX5_into_1 : decode cX5_into 1 = .ok (.getfield 28, 3) := by decide +kernel
theorem dX5_into_4 : decode cX5_into 4 = .ok (.iload_n 1, 1) := by decide +kernel
theorem dX5_into_5 : decode cX5_into 5 = .ok (.invokevirtual 75, 3) := by decide +kernel
theorem dX5_into_8 : decode cX5_into 8 = .ok (.ifCond .eq 18, 3) := by decide +kernel
theorem dX5_into_11 : decode cX5_into 11 = .ok (.iload_n 2, 1) := by decide +kernel
theorem dX5_into_12 : decode cX5_into 12 = .ok (.ifCond .lt 14, 3) := by decide +kernel
theorem dX5_into_15 : decode cX5_into 15 = .ok (.iload_n 2, 1) := by decide +kernel
theorem dX5_into_16 : decode cX5_into 16 = .ok (.aload_n 0, 1) := by decide +kernel
theorem dX5_into_17 : decode cX5_into 17 = .ok (.getfield 28, 3) := by decide +kernel
theorem dX5_into_20 : decode cX5_into 20 = .ok (.getfield 125, 3) := by decide +kernel
theorem dX5_into_23 : decode cX5_into 23 = .ok (.if_icmp .le 6, 3) := by decide +kernel
theorem dX5_into_26 : decode cX5_into 26 = .ok (.bipush (-2), 2) := by decide +kernel
theorem dX5_into_28 : decode cX5_into 28 = .ok (.ireturn, 1) := by decide +kernel
theorem dX5_into_29 : decode cX5_into 29 = .ok (.aload_n 0, 1) := by decide +kernel
theorem dX5_into_30 : decode cX5_into 30 = .ok (.getfield 28, 3) := by decide +kernel
theorem dX5_into_33 : decode cX5_into 33 = .ok (.iload_n 1, 1) := by decide +kernel
theorem dX5_into_34 : decode cX5_into 34 = .ok (.invokevirtual 90, 3) := by decide +kernel
theorem dX5_into_37 : decode cX5_into 37 = .ok (.iconst (-1), 1) := by decide +kernel
theorem dX5_into_38 : decode cX5_into 38 = .ok (.if_icmp .eq 6, 3) := by decide +kernel
theorem dX5_into_41 : decode cX5_into 41 = .ok (.bipush (-3), 2) := by decide +kernel
theorem dX5_into_43 : decode cX5_into 43 = .ok (.ireturn, 1) := by decide +kernel
theorem dX5_into_44 : decode cX5_into 44 = .ok (.aload_n 0, 1) := by decide +kernel
theorem dX5_into_45 : decode cX5_into 45 = .ok (.getfield 28, 3) := by decide +kernel
theorem dX5_into_48 : decode cX5_into 48 = .ok (.iload_n 1, 1) := by decide +kernel
theorem dX5_into_49 : decode cX5_into 49 = .ok (.iload_n 2, 1) := by decide +kernel
theorem dX5_into_50 : decode cX5_into 50 = .ok (.invokevirtual 128, 3) := by decide +kernel
theorem dX5_into_53 : decode cX5_into 53 = .ok (.aload_n 0, 1) := by decide +kernel
theorem dX5_into_54 : decode cX5_into 54 = .ok (.getfield 28, 3) := by decide +kernel
theorem dX5_into_57 : decode cX5_into 57 = .ok (.getfield 125, 3) := by decide +kernel
theorem dX5_into_60 : decode cX5_into 60 = .ok (.ireturn, 1) := by decide +kernel
theorem dX5_swap_0 : decode cX5_swap 0 = .ok (.aload_n 0, 1) := by decide +kernel
theorem dX5_swap_1 : decode cX5_swap 1 = .ok (.getfield 28, 3) := by decide +kernel
theorem dX5_swap_4 : decode cX5_swap 4 = .ok (.iload_n 1, 1) := by decide +kernel
theorem dX5_swap_5 : decode cX5_swap 5 = .ok (.invokevirtual 90, 3) := by decide +kernel
theorem dX5_swap_8 : decode cX5_swap 8 = .ok (.istore_n 3, 1) := by decide +kernel
theorem dX5_swap_9 : decode cX5_swap 9 = .ok (.aload_n 0, 1) := by decide +kernel
theorem dX5_swap_10 : decode cX5_swap 10 = .ok (.getfield 28, 3) := by decide +kernel
theorem dX5_swap_13 : decode cX5_swap 13 = .ok (.iload_n 2, 1) := by decide +kernel
theorem dX5_swap_14 : decode cX5_swap 14 = .ok (.invokevirtual 90, 3) := by decide +kernel
theorem dX5_swap_17 : decode cX5_swap 17 = .ok (.istore 4, 2) := by decide +kernel
theorem dX5_swap_19 : decode cX5_swap 19 = .ok (.iload_n 1, 1) := by decide +kernel
theorem dX5_swap_20 : decode cX5_swap 20 = .ok (.iload_n 2, 1) := by decide +kernel
theorem dX5_swap_21 : decode cX5_swap 21 = .ok (.if_icmp .eq 14, 3) := by decide +kernel
theorem dX5_swap_24 : decode cX5_swap 24 = .ok (.iload_n 3, 1) := by decide +kernel
theorem dX5_swap_25 : decode cX5_swap 25 = .ok (.iconst (-1), 1) := by decide +kernel
theorem dX5_swap_26 : decode cX5_swap 26 = .ok (.if_icmp .eq 9, 3) := by decide +kernel
theorem dX5_swap_29 : decode cX5_swap 29 = .ok (.iload 4, 2) := by decide +kernel
theorem dX5_swap_31 : decode cX5_swap 31 = .ok (.iconst (-1), 1) := by decide +kernel
theorem dX5_swap_32 : decode cX5_swap 32 = .ok (.if_icmp .ne 6, 3) := by decide +kernel
theorem dX5_swap_35 : decode cX5_swap 35 = .ok (.bipush (-2), 2) := by decide +kernel
theorem dX5_swap_37 : decode cX5_swap 37 = .ok (.ireturn, 1) := by decide +kernel
theorem dX5_swap_38 : decode cX5_swap 38 = .ok (.aload_n 0, 1) := by decide +kernel
theorem dX5_swap_39 : decode cX5_swap 39 = .ok (.getfield 28, 3) := by decide +kernel
theorem dX5_swap_42 : decode cX5_swap 42 = .ok (.iload_n 3, 1) := by decide +kernel
theorem dX5_swap_43 : decode cX5_swap 43 = .ok (.iload 4, 2) := by decide +kernel
theorem dX5_swap_45 : decode cX5_swap 45 = .ok (.invokevirtual 132, 3) := by decide +kernel
theorem dX5_swap_48 : decode cX5_swap 48 = .ok (.aload_n 0, 1) := by decide +kernel
theorem dX5_swap_49 : decode cX5_swap 49 = .ok (.getfield 28, 3) := by decide +kernel
theorem dX5_swap_52 : decode cX5_swap 52 = .ok (.invokevirtual 135, 3) := by decide +kernel
theorem dX5_swap_55 : decode cX5_swap 55 = .ok (.ireturn, 1) := by decide +kernel
theorem dX5_hour_0 : decode cX5_hour 0 = .ok (.aload_n 0, 1) := by decide +kernel
theorem dX5_hour_1 : decode cX5_hour 1 = .ok (.getfield 28, 3) := by decide +kernel
theorem dX5_hour_4 : decode cX5_hour 4 = .ok (.getfield 138, 3) := by decide +kernel
theorem dX5_hour_7 : decode cX5_hour 7 = .ok (.sipush 999, 3) := by decide +kernel
theorem dX5_hour_10 : decode cX5_hour 10 = .ok (.if_icmp .lt 6, 3) := by decide +kernel
theorem dX5_hour_13 : decode cX5_hour 13 = .ok (.bipush (-3), 2) := by decide +kernel
theorem dX5_hour_15 : decode cX5_hour 15 = .ok (.ireturn, 1) := by decide +kernel
theorem dX5_hour_16 : decode cX5_hour 16 = .ok (.aload_n 0, 1) := by decide +kernel
theorem dX5_hour_17 : decode cX5_hour 17 = .ok (.getfield 28, 3) := by decide +kernel
theorem dX5_hour_20 : decode cX5_hour 20 = .ok (.invokevirtual 141, 3) := by decide +kernel
theorem dX5_hour_23 : decode cX5_hour 23 = .ok (.aload_n 0, 1) := by decide +kernel
theorem dX5_hour_24 : decode cX5_hour 24 = .ok (.getfield 28, 3) := by decide +kernel
theorem dX5_hour_27 : decode cX5_hour 27 = .ok (.invokevirtual 135, 3) := by decide +kernel
theorem dX5_hour_30 : decode cX5_hour 30 = .ok (.ireturn, 1) := by decide +kernel
theorem dX5_wall_0 : decode cX5_wall 0 = .ok (.iload_n 1, 1) := by decide +kernel
theorem dX5_wall_1 : decode cX5_wall 1 = .ok (.tableswitch 63 0 3 #[31, 39, 47, 55], 31) := by decide +kernel
theorem dX5_wall_32 : decode cX5_wall 32 = .ok (.aload_n 0, 1) := by decide +kernel
theorem dX5_wall_33 : decode cX5_wall 33 = .ok (.getfield 28, 3) := by decide +kernel
theorem dX5_wall_36 : decode cX5_wall 36 = .ok (.invokevirtual 135, 3) := by decide +kernel
theorem dX5_wall_39 : decode cX5_wall 39 = .ok (.ireturn, 1) := by decide +kernel
theorem dX5_wall_40 : decode cX5_wall 40 = .ok (.aload_n 0, 1) := by decide +kernel
theorem dX5_wall_41 : decode cX5_wall 41 = .ok (.getfield 28, 3) := by decide +kernel
theorem dX5_wall_44 : decode cX5_wall 44 = .ok (.invokevirtual 144, 3) := by decide +kernel
theorem dX5_wall_47 : decode cX5_wall 47 = .ok (.ireturn, 1) := by decide +kernel
theorem dX5_wall_48 : decode cX5_wall 48 = .ok (.aload_n 0, 1) := by decide +kernel
theorem dX5_wall_49 : decode cX5_wall 49 = .ok (.getfield 28, 3) := by decide +kernel
theorem dX5_wall_52 : decode cX5_wall 52 = .ok (.invokevirtual 147, 3) := by decide +kernel
theorem dX5_wall_55 : decode cX5_wall 55 = .ok (.ireturn, 1) := by decide +kernel
theorem dX5_wall_56 : decode cX5_wall 56 = .ok (.aload_n 0, 1) := by decide +kernel
theorem dX5_wall_57 : decode cX5_wall 57 = .ok (.getfield 28, 3) := by decide +kernel
theorem dX5_wall_60 : decode cX5_wall 60 = .ok (.getfield 125, 3) := by decide +kernel
theorem dX5_wall_63 : decode cX5_wall 63 = .ok (.ireturn, 1) := by decide +kernel
theorem dX5_wall_64 : decode cX5_wall 64 = .ok (.bipush (-2), 2) := by decide +kernel
theorem dX5_wall_66 : decode cX5_wall 66 = .ok (.ireturn, 1) := by decide +kernel
theorem dX5_sneeze_0 : decode cX5_sneeze 0 = .ok (.aload_n 0, 1) := by decide +kernel
theorem dX5_sneeze_1 : decode cX5_sneeze 1 = .ok (.getfield 28, 3) := by decide +kernel
theorem dX5_sneeze_4 : decode cX5_sneeze 4 = .ok (.iload_n 1, 1) := by decide +kernel
theorem dX5_sneeze_5 : decode cX5_sneeze 5 = .ok (.invokevirtual 90, 3) := by decide +kernel
theorem dX5_sneeze_8 : decode cX5_sneeze 8 = .ok (.istore 4, 2) := by decide +kernel
theorem dX5_sneeze_10 : decode cX5_sneeze 10 = .ok (.iload 4, 2) := by decide +kernel
theorem dX5_sneeze_12 : decode cX5_sneeze 12 = .ok (.iconst (-1), 1) := by decide +kernel
theorem dX5_sneeze_13 : decode cX5_sneeze 13 = .ok (.if_icmp .eq 22, 3) := by decide +kernel
theorem dX5_sneeze_16 : decode cX5_sneeze 16 = .ok (.iload_n 2, 1) := by decide +kernel
theorem dX5_sneeze_17 : decode cX5_sneeze 17 = .ok (.ifCond .lt 18, 3) := by decide +kernel
theorem dX5_sneeze_20 : decode cX5_sneeze 20 = .ok (.iload_n 2, 1) := by decide +kernel
theorem dX5_sneeze_21 : decode cX5_sneeze 21 = .ok (.bipush 99, 2) := by decide +kernel
theorem dX5_sneeze_23 : decode cX5_sneeze 23 = .ok (.if_icmp .gt 12, 3) := by decide +kernel
theorem dX5_sneeze_26 : decode cX5_sneeze 26 = .ok (.iload_n 3, 1) := by decide +kernel
theorem dX5_sneeze_27 : decode cX5_sneeze 27 = .ok (.ifCond .lt 8, 3) := by decide +kernel
theorem dX5_sneeze_30 : decode cX5_sneeze 30 = .ok (.iload_n 3, 1) := by decide +kernel
theorem dX5_sneeze_31 : decode cX5_sneeze 31 = .ok (.iconst 2, 1) := by decide +kernel
theorem dX5_sneeze_32 : decode cX5_sneeze 32 = .ok (.if_icmp .le 6, 3) := by decide +kernel
theorem dX5_sneeze_35 : decode cX5_sneeze 35 = .ok (.bipush (-2), 2) := by decide +kernel
theorem dX5_sneeze_37 : decode cX5_sneeze 37 = .ok (.ireturn, 1) := by decide +kernel
theorem dX5_sneeze_38 : decode cX5_sneeze 38 = .ok (.iconst 0, 1) := by decide +kernel
theorem dX5_sneeze_39 : decode cX5_sneeze 39 = .ok (.istore 5, 2) := by decide +kernel
theorem dX5_sneeze_41 : decode cX5_sneeze 41 = .ok (.iconst (-1), 1) := by decide +kernel
theorem dX5_sneeze_42 : decode cX5_sneeze 42 = .ok (.istore 6, 2) := by decide +kernel
theorem dX5_sneeze_44 : decode cX5_sneeze 44 = .ok (.iconst 0, 1) := by decide +kernel
theorem dX5_sneeze_45 : decode cX5_sneeze 45 = .ok (.istore 7, 2) := by decide +kernel
theorem dX5_sneeze_47 : decode cX5_sneeze 47 = .ok (.aload_n 0, 1) := by decide +kernel
theorem dX5_sneeze_48 : decode cX5_sneeze 48 = .ok (.getfield 28, 3) := by decide +kernel
theorem dX5_sneeze_51 : decode cX5_sneeze 51 = .ok (.getfield 125, 3) := by decide +kernel
theorem dX5_sneeze_54 : decode cX5_sneeze 54 = .ok (.iconst 2, 1) := by decide +kernel
theorem dX5_sneeze_55 : decode cX5_sneeze 55 = .ok (.if_icmp .ge 7, 3) := by decide +kernel
theorem dX5_sneeze_58 : decode cX5_sneeze 58 = .ok (.iconst 0, 1) := by decide +kernel
theorem dX5_sneeze_59 : decode cX5_sneeze 59 = .ok (.goto 4, 3) := by decide +kernel
theorem dX5_sneeze_62 : decode cX5_sneeze 62 = .ok (.iload_n 2, 1) := by decide +kernel
theorem dX5_sneeze_63 : decode cX5_sneeze 63 = .ok (.istore 8, 2) := by decide +kernel
theorem dX5_sneeze_65 : decode cX5_sneeze 65 = .ok (.iload 5, 2) := by decide +kernel
theorem dX5_sneeze_67 : decode cX5_sneeze 67 = .ok (.bipush 60, 2) := by decide +kernel
theorem dX5_sneeze_69 : decode cX5_sneeze 69 = .ok (.if_icmp .ge 53, 3) := by decide +kernel
theorem dX5_sneeze_72 : decode cX5_sneeze 72 = .ok (.iload 8, 2) := by decide +kernel
theorem dX5_sneeze_74 : decode cX5_sneeze 74 = .ok (.ifCond .le 48, 3) := by decide +kernel
theorem dX5_sneeze_77 : decode cX5_sneeze 77 = .ok (.aload_n 0, 1) := by decide +kernel
theorem dX5_sneeze_78 : decode cX5_sneeze 78 = .ok (.getfield 28, 3) := by decide +kernel
theorem dX5_sneeze_81 : decode cX5_sneeze 81 = .ok (.iload 4, 2) := by decide +kernel
theorem dX5_sneeze_83 : decode cX5_sneeze 83 = .ok (.invokevirtual 150, 3) := by decide +kernel
theorem dX5_sneeze_86 : decode cX5_sneeze 86 = .ok (.istore 4, 2) := by decide +kernel
theorem dX5_sneeze_88 : decode cX5_sneeze 88 = .ok (.aload_n 0, 1) := by decide +kernel
theorem dX5_sneeze_89 : decode cX5_sneeze 89 = .ok (.getfield 28, 3) := by decide +kernel
theorem dX5_sneeze_92 : decode cX5_sneeze 92 = .ok (.iload 4, 2) := by decide +kernel
theorem dX5_sneeze_94 : decode cX5_sneeze 94 = .ok (.invokevirtual 96, 3) := by decide +kernel
theorem dX5_sneeze_97 : decode cX5_sneeze 97 = .ok (.istore 6, 2) := by decide +kernel
theorem dX5_sneeze_99 : decode cX5_sneeze 99 = .ok (.iload 8, 2) := by decide +kernel
theorem dX5_sneeze_101 : decode cX5_sneeze 101 = .ok (.istore 7, 2) := by decide +kernel
theorem dX5_sneeze_103 : decode cX5_sneeze 103 = .ok (.aload_n 0, 1) := by decide +kernel
theorem dX5_sneeze_104 : decode cX5_sneeze 104 = .ok (.getfield 28, 3) := by decide +kernel
theorem dX5_sneeze_107 : decode cX5_sneeze 107 = .ok (.iload 6, 2) := by decide +kernel
theorem dX5_sneeze_109 : decode cX5_sneeze 109 = .ok (.iload 8, 2) := by decide +kernel
theorem dX5_sneeze_111 : decode cX5_sneeze 111 = .ok (.invokevirtual 108, 3) := by decide +kernel
theorem dX5_sneeze_114 : decode cX5_sneeze 114 = .ok (.istore 8, 2) := by decide +kernel
theorem dX5_sneeze_116 : decode cX5_sneeze 116 = .ok (.iinc 5 1, 3) := by decide +kernel
theorem dX5_sneeze_119 : decode cX5_sneeze 119 = .ok (.goto (-54), 3) := by decide +kernel
theorem dX5_sneeze_122 : decode cX5_sneeze 122 = .ok (.iload_n 3, 1) := by decide +kernel
theorem dX5_sneeze_123 : decode cX5_sneeze 123 = .ok (.ifCond .ne 8, 3) := by decide +kernel
theorem dX5_sneeze_126 : decode cX5_sneeze 126 = .ok (.iload 5, 2) := by decide +kernel
theorem dX5_sneeze_128 : decode cX5_sneeze 128 = .ok (.goto 15, 3) := by decide +kernel
theorem dX5_sneeze_131 : decode cX5_sneeze 131 = .ok (.iload_n 3, 1) := by decide +kernel
theorem dX5_sneeze_132 : decode cX5_sneeze 132 = .ok (.iconst 1, 1) := by decide +kernel
theorem dX5_sneeze_133 : decode cX5_sneeze 133 = .ok (.if_icmp .ne 8, 3) := by decide +kernel
theorem dX5_sneeze_136 : decode cX5_sneeze 136 = .ok (.iload 6, 2) := by decide +kernel
theorem dX5_sneeze_138 : decode cX5_sneeze 138 = .ok (.goto 5, 3) := by decide +kernel
theorem dX5_sneeze_141 : decode cX5_sneeze 141 = .ok (.iload 7, 2) := by decide +kernel
theorem dX5_sneeze_143 : decode cX5_sneeze 143 = .ok (.ireturn, 1) := by decide +kernel
theorem dX5_run_0 : decode cX5_run 0 = .ok (.iload_n 2, 1) := by decide +kernel
theorem dX5_run_1 : decode cX5_run 1 = .ok (.bipush 10, 2) := by decide +kernel
theorem dX5_run_3 : decode cX5_run 3 = .ok (.isub, 1) := by decide +kernel
theorem dX5_run_4 : decode cX5_run 4 = .ok (.istore_n 3, 1) := by decide +kernel
theorem dX5_run_5 : decode cX5_run 5 = .ok (.iload_n 2, 1) := by decide +kernel
theorem dX5_run_6 : decode cX5_run 6 = .ok (.bipush 10, 2) := by decide +kernel
theorem dX5_run_8 : decode cX5_run 8 = .ok (.if_icmp .lt 18, 3) := by decide +kernel
theorem dX5_run_11 : decode cX5_run 11 = .ok (.aload_n 0, 1) := by decide +kernel
theorem dX5_run_12 : decode cX5_run 12 = .ok (.getfield 28, 3) := by decide +kernel
theorem dX5_run_15 : decode cX5_run 15 = .ok (.iload_n 3, 1) := by decide +kernel
theorem dX5_run_16 : decode cX5_run 16 = .ok (.invokevirtual 75, 3) := by decide +kernel
theorem dX5_run_19 : decode cX5_run 19 = .ok (.ifCond .eq 7, 3) := by decide +kernel
theorem dX5_run_22 : decode cX5_run 22 = .ok (.iconst 1, 1) := by decide +kernel
theorem dX5_run_23 : decode cX5_run 23 = .ok (.goto 4, 3) := by decide +kernel
theorem dX5_run_26 : decode cX5_run 26 = .ok (.iconst 0, 1) := by decide +kernel
theorem dX5_run_27 : decode cX5_run 27 = .ok (.istore 4, 2) := by decide +kernel
theorem dX5_run_29 : decode cX5_run 29 = .ok (.iload_n 1, 1) := by decide +kernel
theorem dX5_run_30 : decode cX5_run 30 = .ok (.ifCond .lt 23, 3) := by decide +kernel
theorem dX5_run_33 : decode cX5_run 33 = .ok (.iload_n 1, 1) := by decide +kernel
theorem dX5_run_34 : decode cX5_run 34 = .ok (.bipush 40, 2) := by decide +kernel
theorem dX5_run_36 : decode cX5_run 36 = .ok (.if_icmp .gt 17, 3) := by decide +kernel
theorem dX5_run_39 : decode cX5_run 39 = .ok (.iload_n 2, 1) := by decide +kernel
theorem dX5_run_40 : decode cX5_run 40 = .ok (.ifCond .eq 17, 3) := by decide +kernel
theorem dX5_run_43 : decode cX5_run 43 = .ok (.iload_n 2, 1) := by decide +kernel
theorem dX5_run_44 : decode cX5_run 44 = .ok (.iconst 1, 1) := by decide +kernel
theorem dX5_run_45 : decode cX5_run 45 = .ok (.if_icmp .eq 12, 3) := by decide +kernel
theorem dX5_run_48 : decode cX5_run 48 = .ok (.iload 4, 2) := by decide +kernel
theorem dX5_run_50 : decode cX5_run 50 = .ok (.ifCond .ne 7, 3) := by decide +kernel
theorem dX5_run_53 : decode cX5_run 53 = .ok (.sipush (-1000), 3) := by decide +kernel
theorem dX5_run_56 : decode cX5_run 56 = .ok (.ireturn, 1) := by decide +kernel
theorem dX5_run_57 : decode cX5_run 57 = .ok (.aload_n 0, 1) := by decide +kernel
theorem dX5_run_58 : decode cX5_run 58 = .ok (.getfield 32, 3) := by decide +kernel
theorem dX5_run_61 : decode cX5_run 61 = .ok (.aload_n 0, 1) := by decide +kernel
theorem dX5_run_62 : decode cX5_run 62 = .ok (.getfield 28, 3) := by decide +kernel
theorem dX5_run_65 : decode cX5_run 65 = .ok (.invokevirtual 153, 3) := by decide +kernel
theorem dX5_run_68 : decode cX5_run 68 = .ok (.iconst 0, 1) := by decide +kernel
theorem dX5_run_69 : decode cX5_run 69 = .ok (.istore 5, 2) := by decide +kernel
theorem dX5_run_71 : decode cX5_run 71 = .ok (.iload 5, 2) := by decide +kernel
theorem dX5_run_73 : decode cX5_run 73 = .ok (.iload_n 1, 1) := by decide +kernel
theorem dX5_run_74 : decode cX5_run 74 = .ok (.if_icmp .ge 16, 3) := by decide +kernel
theorem dX5_run_77 : decode cX5_run 77 = .ok (.aload_n 0, 1) := by decide +kernel
theorem dX5_run_78 : decode cX5_run 78 = .ok (.getfield 32, 3) := by decide +kernel
theorem dX5_run_81 : decode cX5_run 81 = .ok (.invokevirtual 141, 3) := by decide +kernel
theorem dX5_run_84 : decode cX5_run 84 = .ok (.iinc 5 1, 3) := by decide +kernel
theorem dX5_run_87 : decode cX5_run 87 = .ok (.goto (-16), 3) := by decide +kernel
theorem dX5_run_90 : decode cX5_run 90 = .ok (.iload 4, 2) := by decide +kernel
theorem dX5_run_92 : decode cX5_run 92 = .ok (.ifCond .eq 13, 3) := by decide +kernel
theorem dX5_run_95 : decode cX5_run 95 = .ok (.aload_n 0, 1) := by decide +kernel
theorem dX5_run_96 : decode cX5_run 96 = .ok (.getfield 32, 3) := by decide +kernel
theorem dX5_run_99 : decode cX5_run 99 = .ok (.iconst 3, 1) := by decide +kernel
theorem dX5_run_100 : decode cX5_run 100 = .ok (.iload_n 3, 1) := by decide +kernel
theorem dX5_run_101 : decode cX5_run 101 = .ok (.invokevirtual 78, 3) := by decide +kernel
theorem dX5_run_104 : decode cX5_run 104 = .ok (.ireturn, 1) := by decide +kernel
theorem dX5_run_105 : decode cX5_run 105 = .ok (.iload_n 2, 1) := by decide +kernel
theorem dX5_run_106 : decode cX5_run 106 = .ok (.ifCond .ne 13, 3) := by decide +kernel
theorem dX5_run_109 : decode cX5_run 109 = .ok (.aload_n 0, 1) := by decide +kernel
theorem dX5_run_110 : decode cX5_run 110 = .ok (.getfield 32, 3) := by decide +kernel
theorem dX5_run_113 : decode cX5_run 113 = .ok (.invokevirtual 135, 3) := by decide +kernel
theorem dX5_run_116 : decode cX5_run 116 = .ok (.goto 10, 3) := by decide +kernel
theorem dX5_run_119 : decode cX5_run 119 = .ok (.aload_n 0, 1) := by decide +kernel
theorem dX5_run_120 : decode cX5_run 120 = .ok (.getfield 32, 3) := by decide +kernel
theorem dX5_run_123 : decode cX5_run 123 = .ok (.invokevirtual 144, 3) := by decide +kernel
theorem dX5_run_126 : decode cX5_run 126 = .ok (.ireturn, 1) := by decide +kernel
theorem dX5_opens_0 : decode cX5_opens 0 = .ok (.aload_n 0, 1) := by decide +kernel
theorem dX5_opens_1 : decode cX5_opens 1 = .ok (.getfield 32, 3) := by decide +kernel
theorem dX5_opens_4 : decode cX5_opens 4 = .ok (.aload_n 0, 1) := by decide +kernel
theorem dX5_opens_5 : decode cX5_opens 5 = .ok (.getfield 28, 3) := by decide +kernel
theorem dX5_opens_8 : decode cX5_opens 8 = .ok (.invokevirtual 153, 3) := by decide +kernel
theorem dX5_opens_11 : decode cX5_opens 11 = .ok (.iconst 0, 1) := by decide +kernel
theorem dX5_opens_12 : decode cX5_opens 12 = .ok (.istore_n 1, 1) := by decide +kernel
theorem dX5_opens_13 : decode cX5_opens 13 = .ok (.iload_n 1, 1) := by decide +kernel
theorem dX5_opens_14 : decode cX5_opens 14 = .ok (.bipush 60, 2) := by decide +kernel
theorem dX5_opens_16 : decode cX5_opens 16 = .ok (.if_icmp .gt 29, 3) := by decide +kernel
theorem dX5_opens_19 : decode cX5_opens 19 = .ok (.aload_n 0, 1) := by decide +kernel
theorem dX5_opens_20 : decode cX5_opens 20 = .ok (.getfield 32, 3) := by decide +kernel
theorem dX5_opens_23 : decode cX5_opens 23 = .ok (.invokevirtual 147, 3) := by decide +kernel
theorem dX5_opens_26 : decode cX5_opens 26 = .ok (.iconst (-1), 1) := by decide +kernel
theorem dX5_opens_27 : decode cX5_opens 27 = .ok (.if_icmp .eq 5, 3) := by decide +kernel
theorem dX5_opens_30 : decode cX5_opens 30 = .ok (.iload_n 1, 1) := by decide +kernel
theorem dX5_opens_31 : decode cX5_opens 31 = .ok (.ireturn, 1) := by decide +kernel
theorem dX5_opens_32 : decode cX5_opens 32 = .ok (.aload_n 0, 1) := by decide +kernel
theorem dX5_opens_33 : decode cX5_opens 33 = .ok (.getfield 32, 3) := by decide +kernel
theorem dX5_opens_36 : decode cX5_opens 36 = .ok (.invokevirtual 141, 3) := by decide +kernel
theorem dX5_opens_39 : decode cX5_opens 39 = .ok (.iinc 1 1, 3) := by decide +kernel
theorem dX5_opens_42 : decode cX5_opens 42 = .ok (.goto (-29), 3) := by decide +kernel
theorem dX5_opens_45 : decode cX5_opens 45 = .ok (.iconst (-1), 1) := by decide +kernel
theorem dX5_opens_46 : decode cX5_opens 46 = .ok (.ireturn, 1) := by decide +kernel
theorem dX5_order_0 : decode cX5_order 0 = .ok (.iload_n 1, 1) := by decide +kernel
theorem dX5_order_1 : decode cX5_order 1 = .ok (.ifCond .eq 11, 3) := by decide +kernel
theorem dX5_order_4 : decode cX5_order 4 = .ok (.iload_n 1, 1) := by decide +kernel
theorem dX5_order_5 : decode cX5_order 5 = .ok (.iconst 1, 1) := by decide +kernel
theorem dX5_order_6 : decode cX5_order 6 = .ok (.if_icmp .eq 6, 3) := by decide +kernel
theorem dX5_order_9 : decode cX5_order 9 = .ok (.bipush (-2), 2) := by decide +kernel
theorem dX5_order_11 : decode cX5_order 11 = .ok (.ireturn, 1) := by decide +kernel
theorem dX5_order_12 : decode cX5_order 12 = .ok (.aload_n 0, 1) := by decide +kernel
theorem dX5_order_13 : decode cX5_order 13 = .ok (.getfield 41, 3) := by decide +kernel
theorem dX5_order_16 : decode cX5_order 16 = .ok (.aload_n 0, 1) := by decide +kernel
theorem dX5_order_17 : decode cX5_order 17 = .ok (.getfield 28, 3) := by decide +kernel
theorem dX5_order_20 : decode cX5_order 20 = .ok (.invokevirtual 157, 3) := by decide +kernel
theorem dX5_order_23 : decode cX5_order 23 = .ok (.aload_n 0, 1) := by decide +kernel
theorem dX5_order_24 : decode cX5_order 24 = .ok (.getfield 41, 3) := by decide +kernel
theorem dX5_order_27 : decode cX5_order 27 = .ok (.invokevirtual 160, 3) := by decide +kernel
theorem dX5_order_30 : decode cX5_order 30 = .ok (.iload_n 1, 1) := by decide +kernel
theorem dX5_order_31 : decode cX5_order 31 = .ok (.ifCond .ne 13, 3) := by decide +kernel
theorem dX5_order_34 : decode cX5_order 34 = .ok (.aload_n 0, 1) := by decide +kernel
theorem dX5_order_35 : decode cX5_order 35 = .ok (.getfield 41, 3) := by decide +kernel
theorem dX5_order_38 : decode cX5_order 38 = .ok (.invokevirtual 163, 3) := by decide +kernel
theorem dX5_order_41 : decode cX5_order 41 = .ok (.goto 10, 3) := by decide +kernel
theorem dX5_order_44 : decode cX5_order 44 = .ok (.aload_n 0, 1) := by decide +kernel
theorem dX5_order_45 : decode cX5_order 45 = .ok (.getfield 41, 3) := by decide +kernel
theorem dX5_order_48 : decode cX5_order 48 = .ok (.getfield 166, 3) := by decide +kernel
theorem dX5_order_51 : decode cX5_order 51 = .ok (.ireturn, 1) := by decide +kernel
theorem dX5_let_0 : decode cX5_let 0 = .ok (.iload_n 1, 1) := by decide +kernel
theorem dX5_let_1 : decode cX5_let 1 = .ok (.ifCond .eq 11, 3) := by decide +kernel
theorem dX5_let_4 : decode cX5_let 4 = .ok (.iload_n 1, 1) := by decide +kernel
theorem dX5_let_5 : decode cX5_let 5 = .ok (.iconst 1, 1) := by decide +kernel
theorem dX5_let_6 : decode cX5_let 6 = .ok (.if_icmp .eq 6, 3) := by decide +kernel
theorem dX5_let_9 : decode cX5_let 9 = .ok (.bipush (-2), 2) := by decide +kernel
theorem dX5_let_11 : decode cX5_let 11 = .ok (.ireturn, 1) := by decide +kernel
theorem dX5_let_12 : decode cX5_let 12 = .ok (.iconst (-1), 1) := by decide +kernel
theorem dX5_let_13 : decode cX5_let 13 = .ok (.istore_n 2, 1) := by decide +kernel
theorem dX5_let_14 : decode cX5_let 14 = .ok (.iconst (-1), 1) := by decide +kernel
theorem dX5_let_15 : decode cX5_let 15 = .ok (.istore_n 3, 1) := by decide +kernel
theorem dX5_let_16 : decode cX5_let 16 = .ok (.iconst 0, 1) := by decide +kernel
theorem dX5_let_17 : decode cX5_let 17 = .ok (.istore 4, 2) := by decide +kernel
theorem dX5_let_19 : decode cX5_let 19 = .ok (.iload 4, 2) := by decide +kernel
theorem dX5_let_21 : decode cX5_let 21 = .ok (.aload_n 0, 1) := by decide +kernel
theorem dX5_let_22 : decode cX5_let 22 = .ok (.getfield 28, 3) := by decide +kernel
theorem dX5_let_25 : decode cX5_let 25 = .ok (.getfield 169, 3) := by decide +kernel
theorem dX5_let_28 : decode cX5_let 28 = .ok (.if_icmp .ge 78, 3) := by decide +kernel
theorem dX5_let_31 : decode cX5_let 31 = .ok (.aload_n 0, 1) := by decide +kernel
theorem dX5_let_32 : decode cX5_let 32 = .ok (.getfield 28, 3) := by decide +kernel
theorem dX5_let_35 : decode cX5_let 35 = .ok (.getfield 125, 3) := by decide +kernel
theorem dX5_let_38 : decode cX5_let 38 = .ok (.iconst 2, 1) := by decide +kernel
theorem dX5_let_39 : decode cX5_let 39 = .ok (.if_icmp .le 67, 3) := by decide +kernel
theorem dX5_let_42 : decode cX5_let 42 = .ok (.aload_n 0, 1) := by decide +kernel
theorem dX5_let_43 : decode cX5_let 43 = .ok (.getfield 28, 3) := by decide +kernel
theorem dX5_let_46 : decode cX5_let 46 = .ok (.iload 4, 2) := by decide +kernel
theorem dX5_let_48 : decode cX5_let 48 = .ok (.invokevirtual 90, 3) := by decide +kernel
theorem dX5_let_51 : decode cX5_let 51 = .ok (.istore 5, 2) := by decide +kernel
theorem dX5_let_53 : decode cX5_let 53 = .ok (.iload 5, 2) := by decide +kernel
theorem dX5_let_55 : decode cX5_let 55 = .ok (.iconst (-1), 1) := by decide +kernel
theorem dX5_let_56 : decode cX5_let 56 = .ok (.if_icmp .eq 44, 3) := by decide +kernel
theorem dX5_let_59 : decode cX5_let 59 = .ok (.aload_n 0, 1) := by decide +kernel
theorem dX5_let_60 : decode cX5_let 60 = .ok (.getfield 32, 3) := by decide +kernel
theorem dX5_let_63 : decode cX5_let 63 = .ok (.aload_n 0, 1) := by decide +kernel
theorem dX5_let_64 : decode cX5_let 64 = .ok (.getfield 28, 3) := by decide +kernel
theorem dX5_let_67 : decode cX5_let 67 = .ok (.invokevirtual 153, 3) := by decide +kernel
theorem dX5_let_70 : decode cX5_let 70 = .ok (.aload_n 0, 1) := by decide +kernel
theorem dX5_let_71 : decode cX5_let 71 = .ok (.getfield 32, 3) := by decide +kernel
theorem dX5_let_74 : decode cX5_let 74 = .ok (.iload 5, 2) := by decide +kernel
theorem dX5_let_76 : decode cX5_let 76 = .ok (.invokevirtual 121, 3) := by decide +kernel
theorem dX5_let_79 : decode cX5_let 79 = .ok (.aload_n 0, 1) := by decide +kernel
theorem dX5_let_80 : decode cX5_let 80 = .ok (.getfield 32, 3) := by decide +kernel
theorem dX5_let_83 : decode cX5_let 83 = .ok (.invokevirtual 135, 3) := by decide +kernel
theorem dX5_let_86 : decode cX5_let 86 = .ok (.istore 6, 2) := by decide +kernel
theorem dX5_let_88 : decode cX5_let 88 = .ok (.iload 6, 2) := by decide +kernel
theorem dX5_let_90 : decode cX5_let 90 = .ok (.iload_n 3, 1) := by decide +kernel
theorem dX5_let_91 : decode cX5_let 91 = .ok (.if_icmp .le 9, 3) := by decide +kernel
theorem dX5_let_94 : decode cX5_let 94 = .ok (.iload 4, 2) := by decide +kernel
theorem dX5_let_96 : decode cX5_let 96 = .ok (.istore_n 2, 1) := by decide +kernel
theorem dX5_let_97 : decode cX5_let 97 = .ok (.iload 6, 2) := by decide +kernel
theorem dX5_let_99 : decode cX5_let 99 = .ok (.istore_n 3, 1) := by decide +kernel
theorem dX5_let_100 : decode cX5_let 100 = .ok (.iinc 4 1, 3) := by decide +kernel
theorem dX5_let_103 : decode cX5_let 103 = .ok (.goto (-84), 3) := by decide +kernel
theorem dX5_let_106 : decode cX5_let 106 = .ok (.iload_n 1, 1) := by decide +kernel
theorem dX5_let_107 : decode cX5_let 107 = .ok (.ifCond .ne 7, 3) := by decide +kernel
theorem dX5_let_110 : decode cX5_let 110 = .ok (.iload_n 2, 1) := by decide +kernel
theorem dX5_let_111 : decode cX5_let 111 = .ok (.goto 4, 3) := by decide +kernel
theorem dX5_let_114 : decode cX5_let 114 = .ok (.iload_n 3, 1) := by decide +kernel
theorem dX5_let_115 : decode cX5_let 115 = .ok (.ireturn, 1) := by decide +kernel
theorem dX5_letsIn_0 : decode cX5_letsIn 0 = .ok (.aload_n 0, 1) := by decide +kernel
theorem dX5_letsIn_1 : decode cX5_letsIn 1 = .ok (.getfield 28, 3) := by decide +kernel
theorem dX5_letsIn_4 : decode cX5_letsIn 4 = .ok (.iload_n 1, 1) := by decide +kernel
theorem dX5_letsIn_5 : decode cX5_letsIn 5 = .ok (.invokevirtual 75, 3) := by decide +kernel
theorem dX5_letsIn_8 : decode cX5_letsIn 8 = .ok (.ifCond .eq 12, 3) := by decide +kernel
theorem dX5_letsIn_11 : decode cX5_letsIn 11 = .ok (.iload_n 2, 1) := by decide +kernel
theorem dX5_letsIn_12 : decode cX5_letsIn 12 = .ok (.ifCond .eq 11, 3) := by decide +kernel
theorem dX5_letsIn_15 : decode cX5_letsIn 15 = .ok (.iload_n 2, 1) := by decide +kernel
theorem dX5_letsIn_16 : decode cX5_letsIn 16 = .ok (.iconst 1, 1) := by decide +kernel
theorem dX5_letsIn_17 : decode cX5_letsIn 17 = .ok (.if_icmp .eq 6, 3) := by decide +kernel
theorem dX5_letsIn_20 : decode cX5_letsIn 20 = .ok (.bipush (-2), 2) := by decide +kernel
theorem dX5_letsIn_22 : decode cX5_letsIn 22 = .ok (.ireturn, 1) := by decide +kernel
theorem dX5_letsIn_23 : decode cX5_letsIn 23 = .ok (.aload_n 0, 1) := by decide +kernel
theorem dX5_letsIn_24 : decode cX5_letsIn 24 = .ok (.getfield 28, 3) := by decide +kernel
theorem dX5_letsIn_27 : decode cX5_letsIn 27 = .ok (.iload_n 1, 1) := by decide +kernel
theorem dX5_letsIn_28 : decode cX5_letsIn 28 = .ok (.invokevirtual 90, 3) := by decide +kernel
theorem dX5_letsIn_31 : decode cX5_letsIn 31 = .ok (.iconst (-1), 1) := by decide +kernel
theorem dX5_letsIn_32 : decode cX5_letsIn 32 = .ok (.if_icmp .eq 6, 3) := by decide +kernel
theorem dX5_letsIn_35 : decode cX5_letsIn 35 = .ok (.bipush (-3), 2) := by decide +kernel
theorem dX5_letsIn_37 : decode cX5_letsIn 37 = .ok (.ireturn, 1) := by decide +kernel
theorem dX5_letsIn_38 : decode cX5_letsIn 38 = .ok (.iconst (-1), 1) := by decide +kernel
theorem dX5_letsIn_39 : decode cX5_letsIn 39 = .ok (.istore_n 3, 1) := by decide +kernel
theorem dX5_letsIn_40 : decode cX5_letsIn 40 = .ok (.iconst (-1), 1) := by decide +kernel
theorem dX5_letsIn_41 : decode cX5_letsIn 41 = .ok (.istore 4, 2) := by decide +kernel
theorem dX5_letsIn_43 : decode cX5_letsIn 43 = .ok (.iconst 1, 1) := by decide +kernel
theorem dX5_letsIn_44 : decode cX5_letsIn 44 = .ok (.istore 5, 2) := by decide +kernel
theorem dX5_letsIn_46 : decode cX5_letsIn 46 = .ok (.iload 5, 2) := by decide +kernel
theorem dX5_letsIn_48 : decode cX5_letsIn 48 = .ok (.aload_n 0, 1) := by decide +kernel
theorem dX5_letsIn_49 : decode cX5_letsIn 49 = .ok (.getfield 28, 3) := by decide +kernel
theorem dX5_letsIn_52 : decode cX5_letsIn 52 = .ok (.getfield 125, 3) := by decide +kernel
theorem dX5_letsIn_55 : decode cX5_letsIn 55 = .ok (.if_icmp .gt 53, 3) := by decide +kernel
theorem dX5_letsIn_58 : decode cX5_letsIn 58 = .ok (.aload_n 0, 1) := by decide +kernel
theorem dX5_letsIn_59 : decode cX5_letsIn 59 = .ok (.getfield 32, 3) := by decide +kernel
theorem dX5_letsIn_62 : decode cX5_letsIn 62 = .ok (.aload_n 0, 1) := by decide +kernel
theorem dX5_letsIn_63 : decode cX5_letsIn 63 = .ok (.getfield 28, 3) := by decide +kernel
theorem dX5_letsIn_66 : decode cX5_letsIn 66 = .ok (.invokevirtual 153, 3) := by decide +kernel
theorem dX5_letsIn_69 : decode cX5_letsIn 69 = .ok (.aload_n 0, 1) := by decide +kernel
theorem dX5_letsIn_70 : decode cX5_letsIn 70 = .ok (.getfield 32, 3) := by decide +kernel
theorem dX5_letsIn_73 : decode cX5_letsIn 73 = .ok (.iload_n 1, 1) := by decide +kernel
theorem dX5_letsIn_74 : decode cX5_letsIn 74 = .ok (.iload 5, 2) := by decide +kernel
theorem dX5_letsIn_76 : decode cX5_letsIn 76 = .ok (.invokevirtual 128, 3) := by decide +kernel
theorem dX5_letsIn_79 : decode cX5_letsIn 79 = .ok (.aload_n 0, 1) := by decide +kernel
theorem dX5_letsIn_80 : decode cX5_letsIn 80 = .ok (.getfield 32, 3) := by decide +kernel
theorem dX5_letsIn_83 : decode cX5_letsIn 83 = .ok (.invokevirtual 135, 3) := by decide +kernel
theorem dX5_letsIn_86 : decode cX5_letsIn 86 = .ok (.istore 6, 2) := by decide +kernel
theorem dX5_letsIn_88 : decode cX5_letsIn 88 = .ok (.iload 6, 2) := by decide +kernel
theorem dX5_letsIn_90 : decode cX5_letsIn 90 = .ok (.iload 4, 2) := by decide +kernel
theorem dX5_letsIn_92 : decode cX5_letsIn 92 = .ok (.if_icmp .le 10, 3) := by decide +kernel
theorem dX5_letsIn_95 : decode cX5_letsIn 95 = .ok (.iload 5, 2) := by decide +kernel
theorem dX5_letsIn_97 : decode cX5_letsIn 97 = .ok (.istore_n 3, 1) := by decide +kernel
theorem dX5_letsIn_98 : decode cX5_letsIn 98 = .ok (.iload 6, 2) := by decide +kernel
theorem dX5_letsIn_100 : decode cX5_letsIn 100 = .ok (.istore 4, 2) := by decide +kernel
theorem dX5_letsIn_102 : decode cX5_letsIn 102 = .ok (.iinc 5 1, 3) := by decide +kernel
theorem dX5_letsIn_105 : decode cX5_letsIn 105 = .ok (.goto (-59), 3) := by decide +kernel
theorem dX5_letsIn_108 : decode cX5_letsIn 108 = .ok (.iload_n 2, 1) := by decide +kernel
theorem dX5_letsIn_109 : decode cX5_letsIn 109 = .ok (.ifCond .ne 7, 3) := by decide +kernel
theorem dX5_letsIn_112 : decode cX5_letsIn 112 = .ok (.iload_n 3, 1) := by decide +kernel
theorem dX5_letsIn_113 : decode cX5_letsIn 113 = .ok (.goto 5, 3) := by decide +kernel
theorem dX5_letsIn_116 : decode cX5_letsIn 116 = .ok (.iload 4, 2) := by decide +kernel
theorem dX5_letsIn_118 : decode cX5_letsIn 118 = .ok (.ireturn, 1) := by decide +kernel
theorem dX5_swaps_0 : decode cX5_swaps 0 = .ok (.aload_n 0, 1) := by decide +kernel
theorem dX5_swaps_1 : decode cX5_swaps 1 = .ok (.getfield 41, 3) := by decide +kernel
theorem dX5_swaps_4 : decode cX5_swaps 4 = .ok (.aload_n 0, 1) := by decide +kernel
theorem dX5_swaps_5 : decode cX5_swaps 5 = .ok (.getfield 28, 3) := by decide +kernel
theorem dX5_swaps_8 : decode cX5_swaps 8 = .ok (.invokevirtual 157, 3) := by decide +kernel
theorem dX5_swaps_11 : decode cX5_swaps 11 = .ok (.aload_n 0, 1) := by decide +kernel
theorem dX5_swaps_12 : decode cX5_swaps 12 = .ok (.getfield 41, 3) := by decide +kernel
theorem dX5_swaps_15 : decode cX5_swaps 15 = .ok (.invokevirtual 172, 3) := by decide +kernel
theorem dX5_swaps_18 : decode cX5_swaps 18 = .ok (.ireturn, 1) := by decide +kernel
theorem dX5_mean_0 : decode cX5_mean 0 = .ok (.iload_n 1, 1) := by decide +kernel
theorem dX5_mean_1 : decode cX5_mean 1 = .ok (.ifCond .eq 8, 3) := by decide +kernel
theorem dX5_mean_4 : decode cX5_mean 4 = .ok (.iload_n 1, 1) := by decide +kernel
theorem dX5_mean_5 : decode cX5_mean 5 = .ok (.iconst 1, 1) := by decide +kernel
theorem dX5_mean_6 : decode cX5_mean 6 = .ok (.if_icmp .ne 14, 3) := by decide +kernel
theorem dX5_mean_9 : decode cX5_mean 9 = .ok (.aload_n 0, 1) := by decide +kernel
theorem dX5_mean_10 : decode cX5_mean 10 = .ok (.getfield 28, 3) := by decide +kernel
theorem dX5_mean_13 : decode cX5_mean 13 = .ok (.getfield 125, 3) := by decide +kernel
theorem dX5_mean_16 : decode cX5_mean 16 = .ok (.iconst 1, 1) := by decide +kernel
theorem dX5_mean_17 : decode cX5_mean 17 = .ok (.if_icmp .ge 7, 3) := by decide +kernel
theorem dX5_mean_20 : decode cX5_mean 20 = .ok (.ldc2_w 175, 3) := by decide +kernel
theorem dX5_mean_23 : decode cX5_mean 23 = .ok (.lreturn, 1) := by decide +kernel
theorem dX5_mean_24 : decode cX5_mean 24 = .ok (.iconst 0, 1) := by decide +kernel
theorem dX5_mean_25 : decode cX5_mean 25 = .ok (.istore_n 2, 1) := by decide +kernel
theorem dX5_mean_26 : decode cX5_mean 26 = .ok (.iconst 0, 1) := by decide +kernel
theorem dX5_mean_27 : decode cX5_mean 27 = .ok (.istore_n 3, 1) := by decide +kernel
theorem dX5_mean_28 : decode cX5_mean 28 = .ok (.iload_n 3, 1) := by decide +kernel
theorem dX5_mean_29 : decode cX5_mean 29 = .ok (.aload_n 0, 1) := by decide +kernel
theorem dX5_mean_30 : decode cX5_mean 30 = .ok (.getfield 28, 3) := by decide +kernel
theorem dX5_mean_33 : decode cX5_mean 33 = .ok (.getfield 125, 3) := by decide +kernel
theorem dX5_mean_36 : decode cX5_mean 36 = .ok (.if_icmp .ge 28, 3) := by decide +kernel
theorem dX5_mean_39 : decode cX5_mean 39 = .ok (.iload_n 2, 1) := by decide +kernel
theorem dX5_mean_40 : decode cX5_mean 40 = .ok (.aload_n 0, 1) := by decide +kernel
theorem dX5_mean_41 : decode cX5_mean 41 = .ok (.getfield 28, 3) := by decide +kernel
theorem dX5_mean_44 : decode cX5_mean 44 = .ok (.iconst 3, 1) := by decide +kernel
theorem dX5_mean_45 : decode cX5_mean 45 = .ok (.aload_n 0, 1) := by decide +kernel
theorem dX5_mean_46 : decode cX5_mean 46 = .ok (.getfield 28, 3) := by decide +kernel
theorem dX5_mean_49 : decode cX5_mean 49 = .ok (.iload_n 3, 1) := by decide +kernel
theorem dX5_mean_50 : decode cX5_mean 50 = .ok (.invokevirtual 96, 3) := by decide +kernel
theorem dX5_mean_53 : decode cX5_mean 53 = .ok (.invokevirtual 78, 3) := by decide +kernel
theorem dX5_mean_56 : decode cX5_mean 56 = .ok (.iadd, 1) := by decide +kernel
theorem dX5_mean_57 : decode cX5_mean 57 = .ok (.istore_n 2, 1) := by decide +kernel
theorem dX5_mean_58 : decode cX5_mean 58 = .ok (.iinc 3 1, 3) := by decide +kernel
theorem dX5_mean_61 : decode cX5_mean 61 = .ok (.goto (-33), 3) := by decide +kernel
theorem dX5_mean_64 : decode cX5_mean 64 = .ok (.iload_n 2, 1) := by decide +kernel
theorem dX5_mean_65 : decode cX5_mean 65 = .ok (.aload_n 0, 1) := by decide +kernel
theorem dX5_mean_66 : decode cX5_mean 66 = .ok (.getfield 28, 3) := by decide +kernel
theorem dX5_mean_69 : decode cX5_mean 69 = .ok (.getfield 125, 3) := by decide +kernel
theorem dX5_mean_72 : decode cX5_mean 72 = .ok (.iload_n 1, 1) := by decide +kernel
theorem dX5_mean_73 : decode cX5_mean 73 = .ok (.invokestatic 177, 3) := by decide +kernel
theorem dX5_mean_76 : decode cX5_mean 76 = .ok (.lreturn, 1) := by decide +kernel
theorem dX5_tells_0 : decode cX5_tells 0 = .ok (.iload_n 1, 1) := by decide +kernel
theorem dX5_tells_1 : decode cX5_tells 1 = .ok (.invokestatic 181, 3) := by decide +kernel
theorem dX5_tells_4 : decode cX5_tells 4 = .ok (.ifCond .eq 24, 3) := by decide +kernel
theorem dX5_tells_7 : decode cX5_tells 7 = .ok (.aload_n 0, 1) := by decide +kernel
theorem dX5_tells_8 : decode cX5_tells 8 = .ok (.getfield 28, 3) := by decide +kernel
theorem dX5_tells_11 : decode cX5_tells 11 = .ok (.iload_n 2, 1) := by decide +kernel
theorem dX5_tells_12 : decode cX5_tells 12 = .ok (.invokevirtual 75, 3) := by decide +kernel
theorem dX5_tells_15 : decode cX5_tells 15 = .ok (.ifCond .eq 13, 3) := by decide +kernel
theorem dX5_tells_18 : decode cX5_tells 18 = .ok (.iload_n 3, 1) := by decide +kernel
theorem dX5_tells_19 : decode cX5_tells 19 = .ok (.ifCond .lt 9, 3) := by decide +kernel
theorem dX5_tells_22 : decode cX5_tells 22 = .ok (.iload_n 3, 1) := by decide +kernel
theorem dX5_tells_23 : decode cX5_tells 23 = .ok (.bipush 7, 2) := by decide +kernel
theorem dX5_tells_25 : decode cX5_tells 25 = .ok (.if_icmp .le 6, 3) := by decide +kernel
theorem dX5_tells_28 : decode cX5_tells 28 = .ok (.bipush (-2), 2) := by decide +kernel
theorem dX5_tells_30 : decode cX5_tells 30 = .ok (.ireturn, 1) := by decide +kernel
theorem dX5_tells_31 : decode cX5_tells 31 = .ok (.aload_n 0, 1) := by decide +kernel
theorem dX5_tells_32 : decode cX5_tells 32 = .ok (.getfield 47, 3) := by decide +kernel
theorem dX5_tells_35 : decode cX5_tells 35 = .ok (.iload_n 1, 1) := by decide +kernel
theorem dX5_tells_36 : decode cX5_tells 36 = .ok (.aaload, 1) := by decide +kernel
theorem dX5_tells_37 : decode cX5_tells 37 = .ok (.astore 4, 2) := by decide +kernel
theorem dX5_tells_39 : decode cX5_tells 39 = .ok (.aload 4, 2) := by decide +kernel
theorem dX5_tells_41 : decode cX5_tells 41 = .ok (.getfield 184, 3) := by decide +kernel
theorem dX5_tells_44 : decode cX5_tells 44 = .ok (.iconst (-1), 1) := by decide +kernel
theorem dX5_tells_45 : decode cX5_tells 45 = .ok (.if_icmp .ne 6, 3) := by decide +kernel
theorem dX5_tells_48 : decode cX5_tells 48 = .ok (.bipush (-11), 2) := by decide +kernel
theorem dX5_tells_50 : decode cX5_tells 50 = .ok (.ireturn, 1) := by decide +kernel
theorem dX5_tells_51 : decode cX5_tells 51 = .ok (.aload 4, 2) := by decide +kernel
theorem dX5_tells_53 : decode cX5_tells 53 = .ok (.getfield 187, 3) := by decide +kernel
theorem dX5_tells_56 : decode cX5_tells 56 = .ok (.bipush 6, 2) := by decide +kernel
theorem dX5_tells_58 : decode cX5_tells 58 = .ok (.if_icmp .le 6, 3) := by decide +kernel
theorem dX5_tells_61 : decode cX5_tells 61 = .ok (.bipush (-2), 2) := by decide +kernel
theorem dX5_tells_63 : decode cX5_tells 63 = .ok (.ireturn, 1) := by decide +kernel
theorem dX5_tells_64 : decode cX5_tells 64 = .ok (.iload_n 3, 1) := by decide +kernel
theorem dX5_tells_65 : decode cX5_tells 65 = .ok (.ifCond .ne 15, 3) := by decide +kernel
theorem dX5_tells_68 : decode cX5_tells 68 = .ok (.aload_n 0, 1) := by decide +kernel
theorem dX5_tells_69 : decode cX5_tells 69 = .ok (.getfield 28, 3) := by decide +kernel
theorem dX5_tells_72 : decode cX5_tells 72 = .ok (.aload 4, 2) := by decide +kernel
theorem dX5_tells_74 : decode cX5_tells 74 = .ok (.invokevirtual 188, 3) := by decide +kernel
theorem dX5_tells_77 : decode cX5_tells 77 = .ok (.goto 11, 3) := by decide +kernel
theorem dX5_tells_80 : decode cX5_tells 80 = .ok (.aload_n 0, 1) := by decide +kernel
theorem dX5_tells_81 : decode cX5_tells 81 = .ok (.aload 4, 2) := by decide +kernel
theorem dX5_tells_83 : decode cX5_tells 83 = .ok (.iload_n 2, 1) := by decide +kernel
theorem dX5_tells_84 : decode cX5_tells 84 = .ok (.iload_n 3, 1) := by decide +kernel
theorem dX5_tells_85 : decode cX5_tells 85 = .ok (.invokevirtual 192, 3) := by decide +kernel
theorem dX5_tells_88 : decode cX5_tells 88 = .ok (.ireturn, 1) := by decide +kernel
theorem dX5_film_0 : decode cX5_film 0 = .ok (.iload_n 1, 1) := by decide +kernel
theorem dX5_film_1 : decode cX5_film 1 = .ok (.invokestatic 181, 3) := by decide +kernel
theorem dX5_film_4 : decode cX5_film 4 = .ok (.ifCond .ne 6, 3) := by decide +kernel
theorem dX5_film_7 : decode cX5_film 7 = .ok (.bipush (-2), 2) := by decide +kernel
theorem dX5_film_9 : decode cX5_film 9 = .ok (.ireturn, 1) := by decide +kernel
theorem dX5_film_10 : decode cX5_film 10 = .ok (.aload_n 0, 1) := by decide +kernel
theorem dX5_film_11 : decode cX5_film 11 = .ok (.getfield 28, 3) := by decide +kernel
theorem dX5_film_14 : decode cX5_film 14 = .ok (.invokevirtual 99, 3) := by decide +kernel
theorem dX5_film_17 : decode cX5_film 17 = .ok (.istore_n 2, 1) := by decide +kernel
theorem dX5_film_18 : decode cX5_film 18 = .ok (.aload_n 0, 1) := by decide +kernel
theorem dX5_film_19 : decode cX5_film 19 = .ok (.getfield 47, 3) := by decide +kernel
theorem dX5_film_22 : decode cX5_film 22 = .ok (.iload_n 1, 1) := by decide +kernel
theorem dX5_film_23 : decode cX5_film 23 = .ok (.aaload, 1) := by decide +kernel
theorem dX5_film_24 : decode cX5_film 24 = .ok (.astore_n 3, 1) := by decide +kernel
theorem dX5_film_25 : decode cX5_film 25 = .ok (.aload_n 3, 1) := by decide +kernel
theorem dX5_film_26 : decode cX5_film 26 = .ok (.iconst 0, 1) := by decide +kernel
theorem dX5_film_27 : decode cX5_film 27 = .ok (.iload_n 2, 1) := by decide +kernel
theorem dX5_film_28 : decode cX5_film 28 = .ok (.invokevirtual 196, 3) := by decide +kernel
theorem dX5_film_31 : decode cX5_film 31 = .ok (.iconst 0, 1) := by decide +kernel
theorem dX5_film_32 : decode cX5_film 32 = .ok (.istore 4, 2) := by decide +kernel
theorem dX5_film_34 : decode cX5_film 34 = .ok (.iload 4, 2) := by decide +kernel
theorem dX5_film_36 : decode cX5_film 36 = .ok (.iload_n 2, 1) := by decide +kernel
theorem dX5_film_37 : decode cX5_film 37 = .ok (.if_icmp .ge 24, 3) := by decide +kernel
theorem dX5_film_40 : decode cX5_film 40 = .ok (.aload_n 3, 1) := by decide +kernel
theorem dX5_film_41 : decode cX5_film 41 = .ok (.iload 4, 2) := by decide +kernel
theorem dX5_film_43 : decode cX5_film 43 = .ok (.aload_n 0, 1) := by decide +kernel
theorem dX5_film_44 : decode cX5_film 44 = .ok (.getfield 28, 3) := by decide +kernel
theorem dX5_film_47 : decode cX5_film 47 = .ok (.iload 4, 2) := by decide +kernel
theorem dX5_film_49 : decode cX5_film 49 = .ok (.invokevirtual 102, 3) := by decide +kernel
theorem dX5_film_52 : decode cX5_film 52 = .ok (.invokevirtual 199, 3) := by decide +kernel
theorem dX5_film_55 : decode cX5_film 55 = .ok (.iinc 4 1, 3) := by decide +kernel
theorem dX5_film_58 : decode cX5_film 58 = .ok (.goto (-24), 3) := by decide +kernel
theorem dX5_film_61 : decode cX5_film 61 = .ok (.iload_n 2, 1) := by decide +kernel
theorem dX5_film_62 : decode cX5_film 62 = .ok (.ireturn, 1) := by decide +kernel
theorem dX5_drawn_0 : decode cX5_drawn 0 = .ok (.iload_n 2, 1) := by decide +kernel
theorem dX5_drawn_1 : decode cX5_drawn 1 = .ok (.ifCond .lt 9, 3) := by decide +kernel
theorem dX5_drawn_4 : decode cX5_drawn 4 = .ok (.iload_n 2, 1) := by decide +kernel
theorem dX5_drawn_5 : decode cX5_drawn 5 = .ok (.bipush 40, 2) := by decide +kernel
theorem dX5_drawn_7 : decode cX5_drawn 7 = .ok (.if_icmp .le 6, 3) := by decide +kernel
theorem dX5_drawn_10 : decode cX5_drawn 10 = .ok (.bipush (-2), 2) := by decide +kernel
theorem dX5_drawn_12 : decode cX5_drawn 12 = .ok (.ireturn, 1) := by decide +kernel
theorem dX5_drawn_13 : decode cX5_drawn 13 = .ok (.aload_n 0, 1) := by decide +kernel
theorem dX5_drawn_14 : decode cX5_drawn 14 = .ok (.getfield 41, 3) := by decide +kernel
theorem dX5_drawn_17 : decode cX5_drawn 17 = .ok (.aload_n 0, 1) := by decide +kernel
theorem dX5_drawn_18 : decode cX5_drawn 18 = .ok (.getfield 28, 3) := by decide +kernel
theorem dX5_drawn_21 : decode cX5_drawn 21 = .ok (.invokevirtual 157, 3) := by decide +kernel
theorem dX5_drawn_24 : decode cX5_drawn 24 = .ok (.aload_n 0, 1) := by decide +kernel
theorem dX5_drawn_25 : decode cX5_drawn 25 = .ok (.getfield 41, 3) := by decide +kernel
theorem dX5_drawn_28 : decode cX5_drawn 28 = .ok (.iload_n 1, 1) := by decide +kernel
theorem dX5_drawn_29 : decode cX5_drawn 29 = .ok (.iload_n 2, 1) := by decide +kernel
theorem dX5_drawn_30 : decode cX5_drawn 30 = .ok (.invokevirtual 202, 3) := by decide +kernel
theorem dX5_drawn_33 : decode cX5_drawn 33 = .ok (.ireturn, 1) := by decide +kernel
theorem dX5_chance_0 : decode cX5_chance 0 = .ok (.iload_n 2, 1) := by decide +kernel
theorem dX5_chance_1 : decode cX5_chance 1 = .ok (.iconst 1, 1) := by decide +kernel
theorem dX5_chance_2 : decode cX5_chance 2 = .ok (.if_icmp .lt 30, 3) := by decide +kernel
theorem dX5_chance_5 : decode cX5_chance 5 = .ok (.iload_n 2, 1) := by decide +kernel
theorem dX5_chance_6 : decode cX5_chance 6 = .ok (.bipush 40, 2) := by decide +kernel
theorem dX5_chance_8 : decode cX5_chance 8 = .ok (.if_icmp .gt 24, 3) := by decide +kernel
theorem dX5_chance_11 : decode cX5_chance 11 = .ok (.iload_n 3, 1) := by decide +kernel
theorem dX5_chance_12 : decode cX5_chance 12 = .ok (.ifCond .lt 20, 3) := by decide +kernel
theorem dX5_chance_15 : decode cX5_chance 15 = .ok (.iload_n 3, 1) := by decide +kernel
theorem dX5_chance_16 : decode cX5_chance 16 = .ok (.bipush 99, 2) := by decide +kernel
theorem dX5_chance_18 : decode cX5_chance 18 = .ok (.if_icmp .gt 14, 3) := by decide +kernel
theorem dX5_chance_21 : decode cX5_chance 21 = .ok (.iload 4, 2) := by decide +kernel
theorem dX5_chance_23 : decode cX5_chance 23 = .ok (.ifCond .eq 13, 3) := by decide +kernel
theorem dX5_chance_26 : decode cX5_chance 26 = .ok (.iload 4, 2) := by decide +kernel
theorem dX5_chance_28 : decode cX5_chance 28 = .ok (.iconst 1, 1) := by decide +kernel
theorem dX5_chance_29 : decode cX5_chance 29 = .ok (.if_icmp .eq 7, 3) := by decide +kernel
theorem dX5_chance_32 : decode cX5_chance 32 = .ok (.ldc2_w 175, 3) := by decide +kernel
theorem dX5_chance_35 : decode cX5_chance 35 = .ok (.lreturn, 1) := by decide +kernel
theorem dX5_chance_36 : decode cX5_chance 36 = .ok (.aload_n 0, 1) := by decide +kernel
theorem dX5_chance_37 : decode cX5_chance 37 = .ok (.getfield 41, 3) := by decide +kernel
theorem dX5_chance_40 : decode cX5_chance 40 = .ok (.aload_n 0, 1) := by decide +kernel
theorem dX5_chance_41 : decode cX5_chance 41 = .ok (.getfield 28, 3) := by decide +kernel
theorem dX5_chance_44 : decode cX5_chance 44 = .ok (.invokevirtual 157, 3) := by decide +kernel
theorem dX5_chance_47 : decode cX5_chance 47 = .ok (.iconst 0, 1) := by decide +kernel
theorem dX5_chance_48 : decode cX5_chance 48 = .ok (.istore 5, 2) := by decide +kernel
theorem dX5_chance_50 : decode cX5_chance 50 = .ok (.iconst 0, 1) := by decide +kernel
theorem dX5_chance_51 : decode cX5_chance 51 = .ok (.istore 6, 2) := by decide +kernel
theorem dX5_chance_53 : decode cX5_chance 53 = .ok (.iload 6, 2) := by decide +kernel
theorem dX5_chance_55 : decode cX5_chance 55 = .ok (.iload_n 2, 1) := by decide +kernel
theorem dX5_chance_56 : decode cX5_chance 56 = .ok (.if_icmp .ge 29, 3) := by decide +kernel
theorem dX5_chance_59 : decode cX5_chance 59 = .ok (.aload_n 0, 1) := by decide +kernel
theorem dX5_chance_60 : decode cX5_chance 60 = .ok (.getfield 41, 3) := by decide +kernel
theorem dX5_chance_63 : decode cX5_chance 63 = .ok (.iload_n 1, 1) := by decide +kernel
theorem dX5_chance_64 : decode cX5_chance 64 = .ok (.iload 6, 2) := by decide +kernel
theorem dX5_chance_66 : decode cX5_chance 66 = .ok (.iadd, 1) := by decide +kernel
theorem dX5_chance_67 : decode cX5_chance 67 = .ok (.bipush 6, 2) := by decide +kernel
theorem dX5_chance_69 : decode cX5_chance 69 = .ok (.invokevirtual 202, 3) := by decide +kernel
theorem dX5_chance_72 : decode cX5_chance 72 = .ok (.iload_n 3, 1) := by decide +kernel
theorem dX5_chance_73 : decode cX5_chance 73 = .ok (.if_icmp .lt 6, 3) := by decide +kernel
theorem dX5_chance_76 : decode cX5_chance 76 = .ok (.iinc 5 1, 3) := by decide +kernel
theorem dX5_chance_79 : decode cX5_chance 79 = .ok (.iinc 6 1, 3) := by decide +kernel
theorem dX5_chance_82 : decode cX5_chance 82 = .ok (.goto (-29), 3) := by decide +kernel
theorem dX5_chance_85 : decode cX5_chance 85 = .ok (.iload 5, 2) := by decide +kernel
theorem dX5_chance_87 : decode cX5_chance 87 = .ok (.iload_n 2, 1) := by decide +kernel
theorem dX5_chance_88 : decode cX5_chance 88 = .ok (.iload 4, 2) := by decide +kernel
theorem dX5_chance_90 : decode cX5_chance 90 = .ok (.invokestatic 177, 3) := by decide +kernel
theorem dX5_chance_93 : decode cX5_chance 93 = .ok (.lreturn, 1) := by decide +kernel
theorem dX5_image_0 : decode cX5_image 0 = .ok (.aload_n 0, 1) := by decide +kernel
theorem dX5_image_1 : decode cX5_image 1 = .ok (.getfield 35, 3) := by decide +kernel
theorem dX5_image_4 : decode cX5_image 4 = .ok (.aload_n 0, 1) := by decide +kernel
theorem dX5_image_5 : decode cX5_image 5 = .ok (.getfield 28, 3) := by decide +kernel
theorem dX5_image_8 : decode cX5_image 8 = .ok (.invokevirtual 153, 3) := by decide +kernel
theorem dX5_image_11 : decode cX5_image 11 = .ok (.aload_n 0, 1) := by decide +kernel
theorem dX5_image_12 : decode cX5_image 12 = .ok (.iconst 1, 1) := by decide +kernel
theorem dX5_image_13 : decode cX5_image 13 = .ok (.putfield 205, 3) := by decide +kernel
theorem dX5_image_16 : decode cX5_image 16 = .ok (.aload_n 0, 1) := by decide +kernel
theorem dX5_image_17 : decode cX5_image 17 = .ok (.getfield 28, 3) := by decide +kernel
theorem dX5_image_20 : decode cX5_image 20 = .ok (.getfield 169, 3) := by decide +kernel
theorem dX5_image_23 : decode cX5_image 23 = .ok (.ireturn, 1) := by decide +kernel
theorem dX5_back_0 : decode cX5_back 0 = .ok (.aload_n 0, 1) := by decide +kernel
theorem dX5_back_1 : decode cX5_back 1 = .ok (.getfield 205, 3) := by decide +kernel
theorem dX5_back_4 : decode cX5_back 4 = .ok (.ifCond .ne 6, 3) := by decide +kernel
theorem dX5_back_7 : decode cX5_back 7 = .ok (.bipush (-3), 2) := by decide +kernel
theorem dX5_back_9 : decode cX5_back 9 = .ok (.ireturn, 1) := by decide +kernel
theorem dX5_back_10 : decode cX5_back 10 = .ok (.aload_n 0, 1) := by decide +kernel
theorem dX5_back_11 : decode cX5_back 11 = .ok (.getfield 28, 3) := by decide +kernel
theorem dX5_back_14 : decode cX5_back 14 = .ok (.aload_n 0, 1) := by decide +kernel
theorem dX5_back_15 : decode cX5_back 15 = .ok (.getfield 35, 3) := by decide +kernel
theorem dX5_back_18 : decode cX5_back 18 = .ok (.invokevirtual 153, 3) := by decide +kernel
theorem dX5_back_21 : decode cX5_back 21 = .ok (.aload_n 0, 1) := by decide +kernel
theorem dX5_back_22 : decode cX5_back 22 = .ok (.getfield 28, 3) := by decide +kernel
theorem dX5_back_25 : decode cX5_back 25 = .ok (.getfield 169, 3) := by decide +kernel
theorem dX5_back_28 : decode cX5_back 28 = .ok (.ireturn, 1) := by decide +kernel
theorem dX5_count_0 : decode cX5_count 0 = .ok (.iload_n 1, 1) := by decide +kernel
theorem dX5_count_1 : decode cX5_count 1 = .ok (.tableswitch 87 0 5 #[39, 47, 55, 63, 71, 79], 39) := by decide +kernel
theorem dX5_count_40 : decode cX5_count 40 = .ok (.aload_n 0, 1) := by decide +kernel
theorem dX5_count_41 : decode cX5_count 41 = .ok (.getfield 28, 3) := by decide +kernel
theorem dX5_count_44 : decode cX5_count 44 = .ok (.getfield 169, 3) := by decide +kernel
theorem dX5_count_47 : decode cX5_count 47 = .ok (.ireturn, 1) := by decide +kernel
theorem dX5_count_48 : decode cX5_count 48 = .ok (.aload_n 0, 1) := by decide +kernel
theorem dX5_count_49 : decode cX5_count 49 = .ok (.getfield 28, 3) := by decide +kernel
theorem dX5_count_52 : decode cX5_count 52 = .ok (.getfield 125, 3) := by decide +kernel
theorem dX5_count_55 : decode cX5_count 55 = .ok (.ireturn, 1) := by decide +kernel
theorem dX5_count_56 : decode cX5_count 56 = .ok (.aload_n 0, 1) := by decide +kernel
theorem dX5_count_57 : decode cX5_count 57 = .ok (.getfield 28, 3) := by decide +kernel
theorem dX5_count_60 : decode cX5_count 60 = .ok (.getfield 138, 3) := by decide +kernel
theorem dX5_count_63 : decode cX5_count 63 = .ok (.ireturn, 1) := by decide +kernel
theorem dX5_count_64 : decode cX5_count 64 = .ok (.aload_n 0, 1) := by decide +kernel
theorem dX5_count_65 : decode cX5_count 65 = .ok (.getfield 12, 3) := by decide +kernel
theorem dX5_count_68 : decode cX5_count 68 = .ok (.getfield 115, 3) := by decide +kernel
theorem dX5_count_71 : decode cX5_count 71 = .ok (.ireturn, 1) := by decide +kernel
theorem dX5_count_72 : decode cX5_count 72 = .ok (.aload_n 0, 1) := by decide +kernel
theorem dX5_count_73 : decode cX5_count 73 = .ok (.getfield 21, 3) := by decide +kernel
theorem dX5_count_76 : decode cX5_count 76 = .ok (.getfield 111, 3) := by decide +kernel
theorem dX5_count_79 : decode cX5_count 79 = .ok (.ireturn, 1) := by decide +kernel
theorem dX5_count_80 : decode cX5_count 80 = .ok (.aload_n 0, 1) := by decide +kernel
theorem dX5_count_81 : decode cX5_count 81 = .ok (.getfield 28, 3) := by decide +kernel
theorem dX5_count_84 : decode cX5_count 84 = .ok (.getfield 118, 3) := by decide +kernel
theorem dX5_count_87 : decode cX5_count 87 = .ok (.ireturn, 1) := by decide +kernel
theorem dX5_count_88 : decode cX5_count 88 = .ok (.bipush (-2), 2) := by decide +kernel
theorem dX5_count_90 : decode cX5_count 90 = .ok (.ireturn, 1) := by decide +kernel
theorem dX5_sheet_0 : decode cX5_sheet 0 = .ok (.iload_n 1, 1) := by decide +kernel
theorem dX5_sheet_1 : decode cX5_sheet 1 = .ok (.invokestatic 181, 3) := by decide +kernel
theorem dX5_sheet_4 : decode cX5_sheet 4 = .ok (.ifCond .eq 13, 3) := by decide +kernel
theorem dX5_sheet_7 : decode cX5_sheet 7 = .ok (.iload_n 2, 1) := by decide +kernel
theorem dX5_sheet_8 : decode cX5_sheet 8 = .ok (.iconst (-1), 1) := by decide +kernel
theorem dX5_sheet_9 : decode cX5_sheet 9 = .ok (.if_icmp .lt 8, 3) := by decide +kernel
theorem dX5_sheet_12 : decode cX5_sheet 12 = .ok (.iload_n 2, 1) := by decide +kernel
theorem dX5_sheet_13 : decode cX5_sheet 13 = .ok (.iconst 2, 1) := by decide +kernel
theorem dX5_sheet_14 : decode cX5_sheet 14 = .ok (.if_icmp .le 6, 3) := by decide +kernel
theorem dX5_sheet_17 : decode cX5_sheet 17 = .ok (.bipush (-2), 2) := by decide +kernel
theorem dX5_sheet_19 : decode cX5_sheet 19 = .ok (.ireturn, 1) := by decide +kernel
theorem dX5_sheet_20 : decode cX5_sheet 20 = .ok (.iload_n 2, 1) := by decide +kernel
theorem dX5_sheet_21 : decode cX5_sheet 21 = .ok (.iconst (-1), 1) := by decide +kernel
theorem dX5_sheet_22 : decode cX5_sheet 22 = .ok (.if_icmp .eq 12, 3) := by decide +kernel
theorem dX5_sheet_25 : decode cX5_sheet 25 = .ok (.iload_n 3, 1) := by decide +kernel
theorem dX5_sheet_26 : decode cX5_sheet 26 = .ok (.bipush 40, 2) := by decide +kernel
theorem dX5_sheet_28 : decode cX5_sheet 28 = .ok (.if_icmp .le 6, 3) := by decide +kernel
theorem dX5_sheet_31 : decode cX5_sheet 31 = .ok (.bipush (-2), 2) := by decide +kernel
theorem dX5_sheet_33 : decode cX5_sheet 33 = .ok (.ireturn, 1) := by decide +kernel
theorem dX5_sheet_34 : decode cX5_sheet 34 = .ok (.iload_n 2, 1) := by decide +kernel
theorem dX5_sheet_35 : decode cX5_sheet 35 = .ok (.iconst (-1), 1) := by decide +kernel
theorem dX5_sheet_36 : decode cX5_sheet 36 = .ok (.if_icmp .eq 10, 3) := by decide +kernel
theorem dX5_sheet_39 : decode cX5_sheet 39 = .ok (.iload_n 3, 1) := by decide +kernel
theorem dX5_sheet_40 : decode cX5_sheet 40 = .ok (.ifCond .ge 6, 3) := by decide +kernel
theorem dX5_sheet_43 : decode cX5_sheet 43 = .ok (.bipush (-14), 2) := by decide +kernel
theorem dX5_sheet_45 : decode cX5_sheet 45 = .ok (.ireturn, 1) := by decide +kernel
theorem dX5_sheet_46 : decode cX5_sheet 46 = .ok (.aload_n 0, 1) := by decide +kernel
theorem dX5_sheet_47 : decode cX5_sheet 47 = .ok (.getfield 47, 3) := by decide +kernel
theorem dX5_sheet_50 : decode cX5_sheet 50 = .ok (.iload_n 1, 1) := by decide +kernel
theorem dX5_sheet_51 : decode cX5_sheet 51 = .ok (.aaload, 1) := by decide +kernel
theorem dX5_sheet_52 : decode cX5_sheet 52 = .ok (.iload_n 2, 1) := by decide +kernel
theorem dX5_sheet_53 : decode cX5_sheet 53 = .ok (.iload_n 2, 1) := by decide +kernel
theorem dX5_sheet_54 : decode cX5_sheet 54 = .ok (.iconst (-1), 1) := by decide +kernel
theorem dX5_sheet_55 : decode cX5_sheet 55 = .ok (.if_icmp .ne 7, 3) := by decide +kernel
theorem dX5_sheet_58 : decode cX5_sheet 58 = .ok (.iconst 0, 1) := by decide +kernel
theorem dX5_sheet_59 : decode cX5_sheet 59 = .ok (.goto 4, 3) := by decide +kernel
theorem dX5_sheet_62 : decode cX5_sheet 62 = .ok (.iload_n 3, 1) := by decide +kernel
theorem dX5_sheet_63 : decode cX5_sheet 63 = .ok (.invokevirtual 196, 3) := by decide +kernel
theorem dX5_sheet_66 : decode cX5_sheet 66 = .ok (.iconst 1, 1) := by decide +kernel
theorem dX5_sheet_67 : decode cX5_sheet 67 = .ok (.ireturn, 1) := by decide +kernel
theorem dX5_cell_0 : decode cX5_cell 0 = .ok (.iload_n 1, 1) := by decide +kernel
theorem dX5_cell_1 : decode cX5_cell 1 = .ok (.invokestatic 181, 3) := by decide +kernel
theorem dX5_cell_4 : decode cX5_cell 4 = .ok (.ifCond .ne 6, 3) := by decide +kernel
theorem dX5_cell_7 : decode cX5_cell 7 = .ok (.bipush (-2), 2) := by decide +kernel
theorem dX5_cell_9 : decode cX5_cell 9 = .ok (.ireturn, 1) := by decide +kernel
theorem dX5_cell_10 : decode cX5_cell 10 = .ok (.aload_n 0, 1) := by decide +kernel
theorem dX5_cell_11 : decode cX5_cell 11 = .ok (.getfield 47, 3) := by decide +kernel
theorem dX5_cell_14 : decode cX5_cell 14 = .ok (.iload_n 1, 1) := by decide +kernel
theorem dX5_cell_15 : decode cX5_cell 15 = .ok (.aaload, 1) := by decide +kernel
theorem dX5_cell_16 : decode cX5_cell 16 = .ok (.astore 4, 2) := by decide +kernel
theorem dX5_cell_18 : decode cX5_cell 18 = .ok (.aload 4, 2) := by decide +kernel
theorem dX5_cell_20 : decode cX5_cell 20 = .ok (.getfield 184, 3) := by decide +kernel
theorem dX5_cell_23 : decode cX5_cell 23 = .ok (.iconst (-1), 1) := by decide +kernel
theorem dX5_cell_24 : decode cX5_cell 24 = .ok (.if_icmp .ne 6, 3) := by decide +kernel
theorem dX5_cell_27 : decode cX5_cell 27 = .ok (.bipush (-11), 2) := by decide +kernel
theorem dX5_cell_29 : decode cX5_cell 29 = .ok (.ireturn, 1) := by decide +kernel
theorem dX5_cell_30 : decode cX5_cell 30 = .ok (.aload 4, 2) := by decide +kernel
theorem dX5_cell_32 : decode cX5_cell 32 = .ok (.iload_n 2, 1) := by decide +kernel
theorem dX5_cell_33 : decode cX5_cell 33 = .ok (.invokevirtual 209, 3) := by decide +kernel
theorem dX5_cell_36 : decode cX5_cell 36 = .ok (.ifCond .ne 6, 3) := by decide +kernel
theorem dX5_cell_39 : decode cX5_cell 39 = .ok (.bipush (-12), 2) := by decide +kernel
theorem dX5_cell_41 : decode cX5_cell 41 = .ok (.ireturn, 1) := by decide +kernel
theorem dX5_cell_42 : decode cX5_cell 42 = .ok (.aload 4, 2) := by decide +kernel
theorem dX5_cell_44 : decode cX5_cell 44 = .ok (.iload_n 2, 1) := by decide +kernel
theorem dX5_cell_45 : decode cX5_cell 45 = .ok (.iload_n 3, 1) := by decide +kernel
theorem dX5_cell_46 : decode cX5_cell 46 = .ok (.invokevirtual 199, 3) := by decide +kernel
theorem dX5_cell_49 : decode cX5_cell 49 = .ok (.iconst 1, 1) := by decide +kernel
theorem dX5_cell_50 : decode cX5_cell 50 = .ok (.ireturn, 1) := by decide +kernel
theorem dX5_copy_0 : decode cX5_copy 0 = .ok (.iload_n 1, 1) := by decide +kernel
theorem dX5_copy_1 : decode cX5_copy 1 = .ok (.invokestatic 181, 3) := by decide +kernel
theorem dX5_copy_4 : decode cX5_copy 4 = .ok (.ifCond .eq 10, 3) := by decide +kernel
theorem dX5_copy_7 : decode cX5_copy 7 = .ok (.iload_n 3, 1) := by decide +kernel
theorem dX5_copy_8 : decode cX5_copy 8 = .ok (.invokestatic 181, 3) := by decide +kernel
theorem dX5_copy_11 : decode cX5_copy 11 = .ok (.ifCond .ne 6, 3) := by decide +kernel
theorem dX5_copy_14 : decode cX5_copy 14 = .ok (.bipush (-2), 2) := by decide +kernel
theorem dX5_copy_16 : decode cX5_copy 16 = .ok (.ireturn, 1) := by decide +kernel
theorem dX5_copy_17 : decode cX5_copy 17 = .ok (.aload_n 0, 1) := by decide +kernel
theorem dX5_copy_18 : decode cX5_copy 18 = .ok (.getfield 47, 3) := by decide +kernel
theorem dX5_copy_21 : decode cX5_copy 21 = .ok (.iload_n 1, 1) := by decide +kernel
theorem dX5_copy_22 : decode cX5_copy 22 = .ok (.aaload, 1) := by decide +kernel
theorem dX5_copy_23 : decode cX5_copy 23 = .ok (.astore 6, 2) := by decide +kernel
theorem dX5_copy_25 : decode cX5_copy 25 = .ok (.aload_n 0, 1) := by decide +kernel
theorem dX5_copy_26 : decode cX5_copy 26 = .ok (.getfield 47, 3) := by decide +kernel
theorem dX5_copy_29 : decode cX5_copy 29 = .ok (.iload_n 3, 1) := by decide +kernel
theorem dX5_copy_30 : decode cX5_copy 30 = .ok (.aaload, 1) := by decide +kernel
theorem dX5_copy_31 : decode cX5_copy 31 = .ok (.astore 7, 2) := by decide +kernel
theorem dX5_copy_33 : decode cX5_copy 33 = .ok (.aload 6, 2) := by decide +kernel
theorem dX5_copy_35 : decode cX5_copy 35 = .ok (.getfield 184, 3) := by decide +kernel
theorem dX5_copy_38 : decode cX5_copy 38 = .ok (.iconst (-1), 1) := by decide +kernel
theorem dX5_copy_39 : decode cX5_copy 39 = .ok (.if_icmp .eq 12, 3) := by decide +kernel
theorem dX5_copy_42 : decode cX5_copy 42 = .ok (.aload 7, 2) := by decide +kernel
theorem dX5_copy_44 : decode cX5_copy 44 = .ok (.getfield 184, 3) := by decide +kernel
theorem dX5_copy_47 : decode cX5_copy 47 = .ok (.iconst (-1), 1) := by decide +kernel
theorem dX5_copy_48 : decode cX5_copy 48 = .ok (.if_icmp .ne 6, 3) := by decide +kernel
theorem dX5_copy_51 : decode cX5_copy 51 = .ok (.bipush (-11), 2) := by decide +kernel
theorem dX5_copy_53 : decode cX5_copy 53 = .ok (.ireturn, 1) := by decide +kernel
theorem dX5_copy_54 : decode cX5_copy 54 = .ok (.aload 6, 2) := by decide +kernel
theorem dX5_copy_56 : decode cX5_copy 56 = .ok (.getfield 184, 3) := by decide +kernel
theorem dX5_copy_59 : decode cX5_copy 59 = .ok (.aload 7, 2) := by decide +kernel
theorem dX5_copy_61 : decode cX5_copy 61 = .ok (.getfield 184, 3) := by decide +kernel
theorem dX5_copy_64 : decode cX5_copy 64 = .ok (.if_icmp .eq 6, 3) := by decide +kernel
theorem dX5_copy_67 : decode cX5_copy 67 = .ok (.bipush (-13), 2) := by decide +kernel
theorem dX5_copy_69 : decode cX5_copy 69 = .ok (.ireturn, 1) := by decide +kernel
theorem dX5_copy_70 : decode cX5_copy 70 = .ok (.aload 6, 2) := by decide +kernel
theorem dX5_copy_72 : decode cX5_copy 72 = .ok (.iload_n 2, 1) := by decide +kernel
theorem dX5_copy_73 : decode cX5_copy 73 = .ok (.iload 5, 2) := by decide +kernel
theorem dX5_copy_75 : decode cX5_copy 75 = .ok (.invokevirtual 210, 3) := by decide +kernel
theorem dX5_copy_78 : decode cX5_copy 78 = .ok (.ifCond .eq 15, 3) := by decide +kernel
theorem dX5_copy_81 : decode cX5_copy 81 = .ok (.aload 7, 2) := by decide +kernel
theorem dX5_copy_83 : decode cX5_copy 83 = .ok (.iload 4, 2) := by decide +kernel
theorem dX5_copy_85 : decode cX5_copy 85 = .ok (.iload 5, 2) := by decide +kernel
theorem dX5_copy_87 : decode cX5_copy 87 = .ok (.invokevirtual 210, 3) := by decide +kernel
theorem dX5_copy_90 : decode cX5_copy 90 = .ok (.ifCond .ne 6, 3) := by decide +kernel
theorem dX5_copy_93 : decode cX5_copy 93 = .ok (.bipush (-12), 2) := by decide +kernel
theorem dX5_copy_95 : decode cX5_copy 95 = .ok (.ireturn, 1) := by decide +kernel
theorem dX5_copy_96 : decode cX5_copy 96 = .ok (.aload 6, 2) := by decide +kernel
theorem dX5_copy_98 : decode cX5_copy 98 = .ok (.getfield 214, 3) := by decide +kernel
theorem dX5_copy_101 : decode cX5_copy 101 = .ok (.iload_n 2, 1) := by decide +kernel
theorem dX5_copy_102 : decode cX5_copy 102 = .ok (.aload 7, 2) := by decide +kernel
theorem dX5_copy_104 : decode cX5_copy 104 = .ok (.getfield 214, 3) := by decide +kernel
theorem dX5_copy_107 : decode cX5_copy 107 = .ok (.iload 4, 2) := by decide +kernel
theorem dX5_copy_109 : decode cX5_copy 109 = .ok (.iload 5, 2) := by decide +kernel
theorem dX5_copy_111 : decode cX5_copy 111 = .ok (.invokestatic 218, 3) := by decide +kernel
theorem dX5_copy_114 : decode cX5_copy 114 = .ok (.iload 5, 2) := by decide +kernel
theorem dX5_copy_116 : decode cX5_copy 116 = .ok (.ireturn, 1) := by decide +kernel
theorem dX5_chain_0 : decode cX5_chain 0 = .ok (.iload_n 1, 1) := by decide +kernel
theorem dX5_chain_1 : decode cX5_chain 1 = .ok (.invokestatic 181, 3) := by decide +kernel
theorem dX5_chain_4 : decode cX5_chain 4 = .ok (.ifCond .eq 24, 3) := by decide +kernel
theorem dX5_chain_7 : decode cX5_chain 7 = .ok (.iload_n 2, 1) := by decide +kernel
theorem dX5_chain_8 : decode cX5_chain 8 = .ok (.ifCond .lt 20, 3) := by decide +kernel
theorem dX5_chain_11 : decode cX5_chain 11 = .ok (.iload_n 2, 1) := by decide +kernel
theorem dX5_chain_12 : decode cX5_chain 12 = .ok (.iconst 2, 1) := by decide +kernel
theorem dX5_chain_13 : decode cX5_chain 13 = .ok (.if_icmp .gt 15, 3) := by decide +kernel
theorem dX5_chain_16 : decode cX5_chain 16 = .ok (.iload 4, 2) := by decide +kernel
theorem dX5_chain_18 : decode cX5_chain 18 = .ok (.ifCond .lt 10, 3) := by decide +kernel
theorem dX5_chain_21 : decode cX5_chain 21 = .ok (.iload 4, 2) := by decide +kernel
theorem dX5_chain_23 : decode cX5_chain 23 = .ok (.bipush 6, 2) := by decide +kernel
theorem dX5_chain_25 : decode cX5_chain 25 = .ok (.if_icmp .le 6, 3) := by decide +kernel
theorem dX5_chain_28 : decode cX5_chain 28 = .ok (.bipush (-2), 2) := by decide +kernel
theorem dX5_chain_30 : decode cX5_chain 30 = .ok (.ireturn, 1) := by decide +kernel
theorem dX5_chain_31 : decode cX5_chain 31 = .ok (.aload_n 0, 1) := by decide +kernel
theorem dX5_chain_32 : decode cX5_chain 32 = .ok (.getfield 47, 3) := by decide +kernel
theorem dX5_chain_35 : decode cX5_chain 35 = .ok (.iload_n 1, 1) := by decide +kernel
theorem dX5_chain_36 : decode cX5_chain 36 = .ok (.aaload, 1) := by decide +kernel
theorem dX5_chain_37 : decode cX5_chain 37 = .ok (.astore 5, 2) := by decide +kernel
theorem dX5_chain_39 : decode cX5_chain 39 = .ok (.aload 5, 2) := by decide +kernel
theorem dX5_chain_41 : decode cX5_chain 41 = .ok (.getfield 184, 3) := by decide +kernel
theorem dX5_chain_44 : decode cX5_chain 44 = .ok (.iconst (-1), 1) := by decide +kernel
theorem dX5_chain_45 : decode cX5_chain 45 = .ok (.if_icmp .ne 6, 3) := by decide +kernel
theorem dX5_chain_48 : decode cX5_chain 48 = .ok (.bipush (-11), 2) := by decide +kernel
theorem dX5_chain_50 : decode cX5_chain 50 = .ok (.ireturn, 1) := by decide +kernel
theorem dX5_chain_51 : decode cX5_chain 51 = .ok (.aload 5, 2) := by decide +kernel
theorem dX5_chain_53 : decode cX5_chain 53 = .ok (.getfield 184, 3) := by decide +kernel
theorem dX5_chain_56 : decode cX5_chain 56 = .ok (.iload_n 2, 1) := by decide +kernel
theorem dX5_chain_57 : decode cX5_chain 57 = .ok (.if_icmp .eq 6, 3) := by decide +kernel
theorem dX5_chain_60 : decode cX5_chain 60 = .ok (.bipush (-13), 2) := by decide +kernel
theorem dX5_chain_62 : decode cX5_chain 62 = .ok (.ireturn, 1) := by decide +kernel
theorem dX5_chain_63 : decode cX5_chain 63 = .ok (.iconst 0, 1) := by decide +kernel
theorem dX5_chain_64 : decode cX5_chain 64 = .ok (.istore 6, 2) := by decide +kernel
theorem dX5_chain_66 : decode cX5_chain 66 = .ok (.iload_n 3, 1) := by decide +kernel
theorem dX5_chain_67 : decode cX5_chain 67 = .ok (.istore 7, 2) := by decide +kernel
theorem dX5_chain_69 : decode cX5_chain 69 = .ok (.iconst 0, 1) := by decide +kernel
theorem dX5_chain_70 : decode cX5_chain 70 = .ok (.istore 8, 2) := by decide +kernel
theorem dX5_chain_72 : decode cX5_chain 72 = .ok (.iload 8, 2) := by decide +kernel
theorem dX5_chain_74 : decode cX5_chain 74 = .ok (.iload 4, 2) := by decide +kernel
theorem dX5_chain_76 : decode cX5_chain 76 = .ok (.if_icmp .ge 67, 3) := by decide +kernel
theorem dX5_chain_79 : decode cX5_chain 79 = .ok (.aload 5, 2) := by decide +kernel
theorem dX5_chain_81 : decode cX5_chain 81 = .ok (.iload 7, 2) := by decide +kernel
theorem dX5_chain_83 : decode cX5_chain 83 = .ok (.iconst 3, 1) := by decide +kernel
theorem dX5_chain_84 : decode cX5_chain 84 = .ok (.invokevirtual 210, 3) := by decide +kernel
theorem dX5_chain_87 : decode cX5_chain 87 = .ok (.ifCond .ne 6, 3) := by decide +kernel
theorem dX5_chain_90 : decode cX5_chain 90 = .ok (.bipush (-12), 2) := by decide +kernel
theorem dX5_chain_92 : decode cX5_chain 92 = .ok (.ireturn, 1) := by decide +kernel
theorem dX5_chain_93 : decode cX5_chain 93 = .ok (.aload_n 0, 1) := by decide +kernel
theorem dX5_chain_94 : decode cX5_chain 94 = .ok (.getfield 28, 3) := by decide +kernel
theorem dX5_chain_97 : decode cX5_chain 97 = .ok (.aload 5, 2) := by decide +kernel
theorem dX5_chain_99 : decode cX5_chain 99 = .ok (.getfield 214, 3) := by decide +kernel
theorem dX5_chain_102 : decode cX5_chain 102 = .ok (.iload 7, 2) := by decide +kernel
theorem dX5_chain_104 : decode cX5_chain 104 = .ok (.iaload, 1) := by decide +kernel
theorem dX5_chain_105 : decode cX5_chain 105 = .ok (.aload 5, 2) := by decide +kernel
theorem dX5_chain_107 : decode cX5_chain 107 = .ok (.getfield 214, 3) := by decide +kernel
theorem dX5_chain_110 : decode cX5_chain 110 = .ok (.iload 7, 2) := by decide +kernel
theorem dX5_chain_112 : decode cX5_chain 112 = .ok (.iconst 1, 1) := by decide +kernel
theorem dX5_chain_113 : decode cX5_chain 113 = .ok (.iadd, 1) := by decide +kernel
theorem dX5_chain_114 : decode cX5_chain 114 = .ok (.iaload, 1) := by decide +kernel
theorem dX5_chain_115 : decode cX5_chain 115 = .ok (.aload 5, 2) := by decide +kernel
theorem dX5_chain_117 : decode cX5_chain 117 = .ok (.getfield 214, 3) := by decide +kernel
theorem dX5_chain_120 : decode cX5_chain 120 = .ok (.iload 7, 2) := by decide +kernel
theorem dX5_chain_122 : decode cX5_chain 122 = .ok (.iconst 2, 1) := by decide +kernel
theorem dX5_chain_123 : decode cX5_chain 123 = .ok (.iadd, 1) := by decide +kernel
theorem dX5_chain_124 : decode cX5_chain 124 = .ok (.iaload, 1) := by decide +kernel
theorem dX5_chain_125 : decode cX5_chain 125 = .ok (.invokevirtual 86, 3) := by decide +kernel
theorem dX5_chain_128 : decode cX5_chain 128 = .ok (.ifCond .lt 6, 3) := by decide +kernel
theorem dX5_chain_131 : decode cX5_chain 131 = .ok (.iinc 6 1, 3) := by decide +kernel
theorem dX5_chain_134 : decode cX5_chain 134 = .ok (.iinc 7 3, 3) := by decide +kernel
theorem dX5_chain_137 : decode cX5_chain 137 = .ok (.iinc 8 1, 3) := by decide +kernel
theorem dX5_chain_140 : decode cX5_chain 140 = .ok (.goto (-68), 3) := by decide +kernel
theorem dX5_chain_143 : decode cX5_chain 143 = .ok (.iload 6, 2) := by decide +kernel
theorem dX5_chain_145 : decode cX5_chain 145 = .ok (.ireturn, 1) := by decide +kernel
theorem dX5_taken_0 : decode cX5_taken 0 = .ok (.iload_n 2, 1) := by decide +kernel
theorem dX5_taken_1 : decode cX5_taken 1 = .ok (.ifCond .lt 9, 3) := by decide +kernel
theorem dX5_taken_4 : decode cX5_taken 4 = .ok (.iload_n 2, 1) := by decide +kernel
theorem dX5_taken_5 : decode cX5_taken 5 = .ok (.bipush 6, 2) := by decide +kernel
theorem dX5_taken_7 : decode cX5_taken 7 = .ok (.if_icmp .lt 6, 3) := by decide +kernel
theorem dX5_taken_10 : decode cX5_taken 10 = .ok (.bipush (-2), 2) := by decide +kernel
theorem dX5_taken_12 : decode cX5_taken 12 = .ok (.ireturn, 1) := by decide +kernel
theorem dX5_taken_13 : decode cX5_taken 13 = .ok (.aload_n 0, 1) := by decide +kernel
theorem dX5_taken_14 : decode cX5_taken 14 = .ok (.getfield 28, 3) := by decide +kernel
theorem dX5_taken_17 : decode cX5_taken 17 = .ok (.iload_n 1, 1) := by decide +kernel
theorem dX5_taken_18 : decode cX5_taken 18 = .ok (.invokevirtual 75, 3) := by decide +kernel
theorem dX5_taken_21 : decode cX5_taken 21 = .ok (.ifCond .ne 6, 3) := by decide +kernel
theorem dX5_taken_24 : decode cX5_taken 24 = .ok (.bipush (-11), 2) := by decide +kernel
theorem dX5_taken_26 : decode cX5_taken 26 = .ok (.ireturn, 1) := by decide +kernel
theorem dX5_taken_27 : decode cX5_taken 27 = .ok (.aload_n 0, 1) := by decide +kernel
theorem dX5_taken_28 : decode cX5_taken 28 = .ok (.getfield 28, 3) := by decide +kernel
theorem dX5_taken_31 : decode cX5_taken 31 = .ok (.iconst 4, 1) := by decide +kernel
theorem dX5_taken_32 : decode cX5_taken 32 = .ok (.iload_n 1, 1) := by decide +kernel
theorem dX5_taken_33 : decode cX5_taken 33 = .ok (.invokevirtual 78, 3) := by decide +kernel
theorem dX5_taken_36 : decode cX5_taken 36 = .ok (.iload_n 2, 1) := by decide +kernel
theorem dX5_taken_37 : decode cX5_taken 37 = .ok (.invokestatic 224, 3) := by decide +kernel
theorem dX5_taken_40 : decode cX5_taken 40 = .ok (.ifCond .eq 15, 3) := by decide +kernel
theorem dX5_taken_43 : decode cX5_taken 43 = .ok (.aload_n 0, 1) := by decide +kernel
theorem dX5_taken_44 : decode cX5_taken 44 = .ok (.getfield 28, 3) := by decide +kernel
theorem dX5_taken_47 : decode cX5_taken 47 = .ok (.iconst 2, 1) := by decide +kernel
theorem dX5_taken_48 : decode cX5_taken 48 = .ok (.iload_n 1, 1) := by decide +kernel
theorem dX5_taken_49 : decode cX5_taken 49 = .ok (.invokevirtual 78, 3) := by decide +kernel
theorem dX5_taken_52 : decode cX5_taken 52 = .ok (.goto 5, 3) := by decide +kernel
theorem dX5_taken_55 : decode cX5_taken 55 = .ok (.bipush (-13), 2) := by decide +kernel
theorem dX5_taken_57 : decode cX5_taken 57 = .ok (.ireturn, 1) := by decide +kernel
theorem dX5_isSheet_0 : decode cX5_isSheet 0 = .ok (.iload_n 0, 1) := by decide +kernel
theorem dX5_isSheet_1 : decode cX5_isSheet 1 = .ok (.ifCond .lt 12, 3) := by decide +kernel
theorem dX5_isSheet_4 : decode cX5_isSheet 4 = .ok (.iload_n 0, 1) := by decide +kernel
theorem dX5_isSheet_5 : decode cX5_isSheet 5 = .ok (.iconst 4, 1) := by decide +kernel
theorem dX5_isSheet_6 : decode cX5_isSheet 6 = .ok (.if_icmp .ge 7, 3) := by decide +kernel
theorem dX5_isSheet_9 : decode cX5_isSheet 9 = .ok (.iconst 1, 1) := by decide +kernel
theorem dX5_isSheet_10 : decode cX5_isSheet 10 = .ok (.goto 4, 3) := by decide +kernel
theorem dX5_isSheet_13 : decode cX5_isSheet 13 = .ok (.iconst 0, 1) := by decide +kernel
theorem dX5_isSheet_14 : decode cX5_isSheet 14 = .ok (.ireturn, 1) := by decide +kernel
theorem dX5_greatest_0 : decode cX5_greatest 0 = .ok (.iload_n 0, 1) := by decide +kernel
theorem dX5_greatest_1 : decode cX5_greatest 1 = .ok (.ifCond .ne 9, 3) := by decide +kernel
theorem dX5_greatest_4 : decode cX5_greatest 4 = .ok (.sipush 999, 3) := by decide +kernel
theorem dX5_greatest_7 : decode cX5_greatest 7 = .ok (.goto 15, 3) := by decide +kernel
theorem dX5_greatest_10 : decode cX5_greatest 10 = .ok (.iload_n 0, 1) := by decide +kernel
theorem dX5_greatest_11 : decode cX5_greatest 11 = .ok (.iconst 2, 1) := by decide +kernel
theorem dX5_greatest_12 : decode cX5_greatest 12 = .ok (.if_icmp .ne 8, 3) := by decide +kernel
theorem dX5_greatest_15 : decode cX5_greatest 15 = .ok (.bipush 9, 2) := by decide +kernel
theorem dX5_greatest_17 : decode cX5_greatest 17 = .ok (.goto 5, 3) := by decide +kernel
theorem dX5_greatest_20 : decode cX5_greatest 20 = .ok (.bipush 99, 2) := by decide +kernel
theorem dX5_greatest_22 : decode cX5_greatest 22 = .ok (.ireturn, 1) := by decide +kernel
theorem dX5_bounded_0 : decode cX5_bounded 0 = .ok (.iload_n 0, 1) := by decide +kernel
theorem dX5_bounded_1 : decode cX5_bounded 1 = .ok (.ifCond .ge 7, 3) := by decide +kernel
theorem dX5_bounded_4 : decode cX5_bounded 4 = .ok (.iconst 0, 1) := by decide +kernel
theorem dX5_bounded_5 : decode cX5_bounded 5 = .ok (.goto 15, 3) := by decide +kernel
theorem dX5_bounded_8 : decode cX5_bounded 8 = .ok (.iload_n 0, 1) := by decide +kernel
theorem dX5_bounded_9 : decode cX5_bounded 9 = .ok (.bipush 99, 2) := by decide +kernel
theorem dX5_bounded_11 : decode cX5_bounded 11 = .ok (.if_icmp .le 8, 3) := by decide +kernel
theorem dX5_bounded_14 : decode cX5_bounded 14 = .ok (.bipush 99, 2) := by decide +kernel
theorem dX5_bounded_16 : decode cX5_bounded 16 = .ok (.goto 4, 3) := by decide +kernel
theorem dX5_bounded_19 : decode cX5_bounded 19 = .ok (.iload_n 0, 1) := by decide +kernel
theorem dX5_bounded_20 : decode cX5_bounded 20 = .ok (.ireturn, 1) := by decide +kernel
theorem dX5_isUnder_0 : decode cX5_isUnder 0 = .ok (.iload_n 0, 1) := by decide +kernel
theorem dX5_isUnder_1 : decode cX5_isUnder 1 = .ok (.istore_n 2, 1) := by decide +kernel
theorem dX5_isUnder_2 : decode cX5_isUnder 2 = .ok (.iconst 0, 1) := by decide +kernel
theorem dX5_isUnder_3 : decode cX5_isUnder 3 = .ok (.istore_n 3, 1) := by decide +kernel
theorem dX5_isUnder_4 : decode cX5_isUnder 4 = .ok (.iload_n 3, 1) := by decide +kernel
theorem dX5_isUnder_5 : decode cX5_isUnder 5 = .ok (.bipush 6, 2) := by decide +kernel
theorem dX5_isUnder_7 : decode cX5_isUnder 7 = .ok (.if_icmp .ge 32, 3) := by decide +kernel
theorem dX5_isUnder_10 : decode cX5_isUnder 10 = .ok (.iload_n 2, 1) := by decide +kernel
theorem dX5_isUnder_11 : decode cX5_isUnder 11 = .ok (.ifCond .lt 28, 3) := by decide +kernel
theorem dX5_isUnder_14 : decode cX5_isUnder 14 = .ok (.iload_n 2, 1) := by decide +kernel
theorem dX5_isUnder_15 : decode cX5_isUnder 15 = .ok (.bipush 6, 2) := by decide +kernel
theorem dX5_isUnder_17 : decode cX5_isUnder 17 = .ok (.if_icmp .ge 22, 3) := by decide +kernel
theorem dX5_isUnder_20 : decode cX5_isUnder 20 = .ok (.iload_n 2, 1) := by decide +kernel
theorem dX5_isUnder_21 : decode cX5_isUnder 21 = .ok (.iload_n 1, 1) := by decide +kernel
theorem dX5_isUnder_22 : decode cX5_isUnder 22 = .ok (.if_icmp .ne 5, 3) := by decide +kernel
theorem dX5_isUnder_25 : decode cX5_isUnder 25 = .ok (.iconst 1, 1) := by decide +kernel
theorem dX5_isUnder_26 : decode cX5_isUnder 26 = .ok (.ireturn, 1) := by decide +kernel
theorem dX5_isUnder_27 : decode cX5_isUnder 27 = .ok (.getstatic 227, 3) := by decide +kernel
theorem dX5_isUnder_30 : decode cX5_isUnder 30 = .ok (.iload_n 2, 1) := by decide +kernel
theorem dX5_isUnder_31 : decode cX5_isUnder 31 = .ok (.iaload, 1) := by decide +kernel
theorem dX5_isUnder_32 : decode cX5_isUnder 32 = .ok (.istore_n 2, 1) := by decide +kernel
theorem dX5_isUnder_33 : decode cX5_isUnder 33 = .ok (.iinc 3 1, 3) := by decide +kernel
theorem dX5_isUnder_36 : decode cX5_isUnder 36 = .ok (.goto (-32), 3) := by decide +kernel
theorem dX5_isUnder_39 : decode cX5_isUnder 39 = .ok (.iconst 0, 1) := by decide +kernel
theorem dX5_isUnder_40 : decode cX5_isUnder 40 = .ok (.ireturn, 1) := by decide +kernel
theorem dX5_lowestTerm_0 : decode cX5_lowestTerm 0 = .ok (.iload_n 0, 1) := by decide +kernel
theorem dX5_lowestTerm_1 : decode cX5_lowestTerm 1 = .ok (.istore_n 3, 1) := by decide +kernel
theorem dX5_lowestTerm_2 : decode cX5_lowestTerm 2 = .ok (.iload_n 1, 1) := by decide +kernel
theorem dX5_lowestTerm_3 : decode cX5_lowestTerm 3 = .ok (.istore 4, 2) := by decide +kernel
theorem dX5_lowestTerm_5 : decode cX5_lowestTerm 5 = .ok (.iconst 0, 1) := by decide +kernel
theorem dX5_lowestTerm_6 : decode cX5_lowestTerm 6 = .ok (.istore 5, 2) := by decide +kernel
theorem dX5_lowestTerm_8 : decode cX5_lowestTerm 8 = .ok (.iload 5, 2) := by decide +kernel
theorem dX5_lowestTerm_10 : decode cX5_lowestTerm 10 = .ok (.bipush 64, 2) := by decide +kernel
theorem dX5_lowestTerm_12 : decode cX5_lowestTerm 12 = .ok (.if_icmp .ge 27, 3) := by decide +kernel
theorem dX5_lowestTerm_15 : decode cX5_lowestTerm 15 = .ok (.iload 4, 2) := by decide +kernel
theorem dX5_lowestTerm_17 : decode cX5_lowestTerm 17 = .ok (.ifCond .eq 22, 3) := by decide +kernel
theorem dX5_lowestTerm_20 : decode cX5_lowestTerm 20 = .ok (.iload_n 3, 1) := by decide +kernel
theorem dX5_lowestTerm_21 : decode cX5_lowestTerm 21 = .ok (.iload 4, 2) := by decide +kernel
theorem dX5_lowestTerm_23 : decode cX5_lowestTerm 23 = .ok (.irem, 1) := by decide +kernel
theorem dX5_lowestTerm_24 : decode cX5_lowestTerm 24 = .ok (.istore 6, 2) := by decide +kernel
theorem dX5_lowestTerm_26 : decode cX5_lowestTerm 26 = .ok (.iload 4, 2) := by decide +kernel
theorem dX5_lowestTerm_28 : decode cX5_lowestTerm 28 = .ok (.istore_n 3, 1) := by decide +kernel
theorem dX5_lowestTerm_29 : decode cX5_lowestTerm 29 = .ok (.iload 6, 2) := by decide +kernel
theorem dX5_lowestTerm_31 : decode cX5_lowestTerm 31 = .ok (.istore 4, 2) := by decide +kernel
theorem dX5_lowestTerm_33 : decode cX5_lowestTerm 33 = .ok (.iinc 5 1, 3) := by decide +kernel
theorem dX5_lowestTerm_36 : decode cX5_lowestTerm 36 = .ok (.goto (-28), 3) := by decide +kernel
theorem dX5_lowestTerm_39 : decode cX5_lowestTerm 39 = .ok (.iload_n 2, 1) := by decide +kernel
theorem dX5_lowestTerm_40 : decode cX5_lowestTerm 40 = .ok (.ifCond .ne 7, 3) := by decide +kernel
theorem dX5_lowestTerm_43 : decode cX5_lowestTerm 43 = .ok (.iload_n 0, 1) := by decide +kernel
theorem dX5_lowestTerm_44 : decode cX5_lowestTerm 44 = .ok (.goto 4, 3) := by decide +kernel
theorem dX5_lowestTerm_47 : decode cX5_lowestTerm 47 = .ok (.iload_n 1, 1) := by decide +kernel
theorem dX5_lowestTerm_48 : decode cX5_lowestTerm 48 = .ok (.istore 5, 2) := by decide +kernel
theorem dX5_lowestTerm_50 : decode cX5_lowestTerm 50 = .ok (.iload_n 3, 1) := by decide +kernel
theorem dX5_lowestTerm_51 : decode cX5_lowestTerm 51 = .ok (.ifCond .le 11, 3) := by decide +kernel
theorem dX5_lowestTerm_54 : decode cX5_lowestTerm 54 = .ok (.iload 5, 2) := by decide +kernel
theorem dX5_lowestTerm_56 : decode cX5_lowestTerm 56 = .ok (.iload_n 3, 1) := by decide +kernel
theorem dX5_lowestTerm_57 : decode cX5_lowestTerm 57 = .ok (.idiv, 1) := by decide +kernel
theorem dX5_lowestTerm_58 : decode cX5_lowestTerm 58 = .ok (.i2l, 1) := by decide +kernel
theorem dX5_lowestTerm_59 : decode cX5_lowestTerm 59 = .ok (.goto 6, 3) := by decide +kernel
theorem dX5_lowestTerm_62 : decode cX5_lowestTerm 62 = .ok (.iload 5, 2) := by decide +kernel
theorem dX5_lowestTerm_64 : decode cX5_lowestTerm 64 = .ok (.i2l, 1) := by decide +kernel
theorem dX5_lowestTerm_65 : decode cX5_lowestTerm 65 = .ok (.lreturn, 1) := by decide +kernel
theorem dX5_readBack_0 : decode cX5_readBack 0 = .ok (.iload_n 3, 1) := by decide +kernel
theorem dX5_readBack_1 : decode cX5_readBack 1 = .ok (.invokestatic 230, 3) := by decide +kernel
theorem dX5_readBack_4 : decode cX5_readBack 4 = .ok (.istore 4, 2) := by decide +kernel
theorem dX5_readBack_6 : decode cX5_readBack 6 = .ok (.iload 4, 2) := by decide +kernel
theorem dX5_readBack_8 : decode cX5_readBack 8 = .ok (.iconst 4, 1) := by decide +kernel
theorem dX5_readBack_9 : decode cX5_readBack 9 = .ok (.if_icmp .ne 8, 3) := by decide +kernel
theorem dX5_readBack_12 : decode cX5_readBack 12 = .ok (.bipush 6, 2) := by decide +kernel
theorem dX5_readBack_14 : decode cX5_readBack 14 = .ok (.goto 27, 3) := by decide +kernel
theorem dX5_readBack_17 : decode cX5_readBack 17 = .ok (.iload 4, 2) := by decide +kernel
theorem dX5_readBack_19 : decode cX5_readBack 19 = .ok (.bipush 9, 2) := by decide +kernel
theorem dX5_readBack_21 : decode cX5_readBack 21 = .ok (.if_icmp .ne 13, 3) := by decide +kernel
theorem dX5_readBack_24 : decode cX5_readBack 24 = .ok (.aload_n 0, 1) := by decide +kernel
theorem dX5_readBack_25 : decode cX5_readBack 25 = .ok (.getfield 12, 3) := by decide +kernel
theorem dX5_readBack_28 : decode cX5_readBack 28 = .ok (.getfield 115, 3) := by decide +kernel
theorem dX5_readBack_31 : decode cX5_readBack 31 = .ok (.goto 10, 3) := by decide +kernel
theorem dX5_readBack_34 : decode cX5_readBack 34 = .ok (.iload 4, 2) := by decide +kernel
end
section
theorem dX5_readBack_36 : decode cX5_readBack 36 = .ok (.invokestatic 71, 3) := by decide +kernel
theorem dX5_readBack_39 : decode cX5_readBack 39 = .ok (.iconst 1, 1) := by decide +kernel
theorem dX5_readBack_40 : decode cX5_readBack 40 = .ok (.iadd, 1) := by decide +kernel
theorem dX5_readBack_41 : decode cX5_readBack 41 = .ok (.istore 5, 2) := by decide +kernel
theorem dX5_readBack_43 : decode cX5_readBack 43 = .ok (.iconst 0, 1) := by decide +kernel
theorem dX5_readBack_44 : decode cX5_readBack 44 = .ok (.istore 6, 2) := by decide +kernel
theorem dX5_readBack_46 : decode cX5_readBack 46 = .ok (.iconst 0, 1) := by decide +kernel
theorem dX5_readBack_47 : decode cX5_readBack 47 = .ok (.istore 7, 2) := by decide +kernel
theorem dX5_readBack_49 : decode cX5_readBack 49 = .ok (.iconst (-1), 1) := by decide +kernel
theorem dX5_readBack_50 : decode cX5_readBack 50 = .ok (.istore 8, 2) := by decide +kernel
theorem dX5_readBack_52 : decode cX5_readBack 52 = .ok (.aload_n 0, 1) := by decide +kernel
theorem dX5_readBack_53 : decode cX5_readBack 53 = .ok (.getfield 32, 3) := by decide +kernel
theorem dX5_readBack_56 : decode cX5_readBack 56 = .ok (.aload_n 0, 1) := by decide +kernel
theorem dX5_readBack_57 : decode cX5_readBack 57 = .ok (.getfield 28, 3) := by decide +kernel
theorem dX5_readBack_60 : decode cX5_readBack 60 = .ok (.invokevirtual 153, 3) := by decide +kernel
theorem dX5_readBack_63 : decode cX5_readBack 63 = .ok (.iconst 0, 1) := by decide +kernel
theorem dX5_readBack_64 : decode cX5_readBack 64 = .ok (.istore 9, 2) := by decide +kernel
theorem dX5_readBack_66 : decode cX5_readBack 66 = .ok (.iload 9, 2) := by decide +kernel
theorem dX5_readBack_68 : decode cX5_readBack 68 = .ok (.iload 5, 2) := by decide +kernel
theorem dX5_readBack_70 : decode cX5_readBack 70 = .ok (.if_icmp .ge 60, 3) := by decide +kernel
theorem dX5_readBack_73 : decode cX5_readBack 73 = .ok (.aload_n 0, 1) := by decide +kernel
theorem dX5_readBack_74 : decode cX5_readBack 74 = .ok (.getfield 32, 3) := by decide +kernel
theorem dX5_readBack_77 : decode cX5_readBack 77 = .ok (.iload 4, 2) := by decide +kernel
theorem dX5_readBack_79 : decode cX5_readBack 79 = .ok (.iload_n 2, 1) := by decide +kernel
theorem dX5_readBack_80 : decode cX5_readBack 80 = .ok (.iload 9, 2) := by decide +kernel
theorem dX5_readBack_82 : decode cX5_readBack 82 = .ok (.invokevirtual 82, 3) := by decide +kernel
theorem dX5_readBack_85 : decode cX5_readBack 85 = .ok (.aload_n 0, 1) := by decide +kernel
theorem dX5_readBack_86 : decode cX5_readBack 86 = .ok (.getfield 32, 3) := by decide +kernel
theorem dX5_readBack_89 : decode cX5_readBack 89 = .ok (.aload_n 1, 1) := by decide +kernel
theorem dX5_readBack_90 : decode cX5_readBack 90 = .ok (.invokevirtual 188, 3) := by decide +kernel
theorem dX5_readBack_93 : decode cX5_readBack 93 = .ok (.iconst (-1), 1) := by decide +kernel
theorem dX5_readBack_94 : decode cX5_readBack 94 = .ok (.if_icmp .ne 30, 3) := by decide +kernel
theorem dX5_readBack_97 : decode cX5_readBack 97 = .ok (.iload 6, 2) := by decide +kernel
theorem dX5_readBack_99 : decode cX5_readBack 99 = .ok (.iconst 1, 1) := by decide +kernel
theorem dX5_readBack_100 : decode cX5_readBack 100 = .ok (.iload 9, 2) := by decide +kernel
theorem dX5_readBack_102 : decode cX5_readBack 102 = .ok (.ishl, 1) := by decide +kernel
theorem dX5_readBack_103 : decode cX5_readBack 103 = .ok (.ior, 1) := by decide +kernel
theorem dX5_readBack_104 : decode cX5_readBack 104 = .ok (.istore 6, 2) := by decide +kernel
theorem dX5_readBack_106 : decode cX5_readBack 106 = .ok (.iinc 7 1, 3) := by decide +kernel
theorem dX5_readBack_109 : decode cX5_readBack 109 = .ok (.iload 8, 2) := by decide +kernel
theorem dX5_readBack_111 : decode cX5_readBack 111 = .ok (.iconst (-1), 1) := by decide +kernel
theorem dX5_readBack_112 : decode cX5_readBack 112 = .ok (.if_icmp .ne 8, 3) := by decide +kernel
theorem dX5_readBack_115 : decode cX5_readBack 115 = .ok (.iload 9, 2) := by decide +kernel
theorem dX5_readBack_117 : decode cX5_readBack 117 = .ok (.goto 5, 3) := by decide +kernel
theorem dX5_readBack_120 : decode cX5_readBack 120 = .ok (.iload 8, 2) := by decide +kernel
theorem dX5_readBack_122 : decode cX5_readBack 122 = .ok (.istore 8, 2) := by decide +kernel
theorem dX5_readBack_124 : decode cX5_readBack 124 = .ok (.iinc 9 1, 3) := by decide +kernel
theorem dX5_readBack_127 : decode cX5_readBack 127 = .ok (.goto (-61), 3) := by decide +kernel
theorem dX5_readBack_130 : decode cX5_readBack 130 = .ok (.iload_n 3, 1) := by decide +kernel
theorem dX5_readBack_131 : decode cX5_readBack 131 = .ok (.tableswitch 35 3 6 #[29, 32, 29, 32], 29) := by decide +kernel
theorem dX5_readBack_160 : decode cX5_readBack 160 = .ok (.iload 7, 2) := by decide +kernel
theorem dX5_readBack_162 : decode cX5_readBack 162 = .ok (.ireturn, 1) := by decide +kernel
theorem dX5_readBack_163 : decode cX5_readBack 163 = .ok (.iload 8, 2) := by decide +kernel
theorem dX5_readBack_165 : decode cX5_readBack 165 = .ok (.ireturn, 1) := by decide +kernel
theorem dX5_readBack_166 : decode cX5_readBack 166 = .ok (.iload 6, 2) := by decide +kernel
theorem dX5_readBack_168 : decode cX5_readBack 168 = .ok (.ireturn, 1) := by decide +kernel
theorem dX5_traitReadBack_0 : decode cX5_traitReadBack 0 = .ok (.iload_n 0, 1) := by decide +kernel
theorem dX5_traitReadBack_1 : decode cX5_traitReadBack 1 = .ok (.tableswitch 47 1 6 #[39, 41, 43, 43, 45, 45], 39) := by decide +kernel
theorem dX5_traitReadBack_40 : decode cX5_traitReadBack 40 = .ok (.iconst 4, 1) := by decide +kernel
theorem dX5_traitReadBack_41 : decode cX5_traitReadBack 41 = .ok (.ireturn, 1) := by decide +kernel
theorem dX5_traitReadBack_42 : decode cX5_traitReadBack 42 = .ok (.iconst 2, 1) := by decide +kernel
theorem dX5_traitReadBack_43 : decode cX5_traitReadBack 43 = .ok (.ireturn, 1) := by decide +kernel
theorem dX5_traitReadBack_44 : decode cX5_traitReadBack 44 = .ok (.iconst 3, 1) := by decide +kernel
theorem dX5_traitReadBack_45 : decode cX5_traitReadBack 45 = .ok (.ireturn, 1) := by decide +kernel
theorem dX5_traitReadBack_46 : decode cX5_traitReadBack 46 = .ok (.iconst 1, 1) := by decide +kernel
theorem dX5_traitReadBack_47 : decode cX5_traitReadBack 47 = .ok (.ireturn, 1) := by decide +kernel
theorem dX5_traitReadBack_48 : decode cX5_traitReadBack 48 = .ok (.bipush 9, 2) := by decide +kernel
theorem dX5_traitReadBack_50 : decode cX5_traitReadBack 50 = .ok (.ireturn, 1) := by decide +kernel
end
section
theorem dX6_in_0 : decode cX6_in 0 = .ok (.lload_n 0, 1) := by decide +kernel
theorem dX6_in_1 : decode cX6_in 1 = .ok (.lload_n 2, 1) := by decide +kernel
theorem dX6_in_2 : decode cX6_in 2 = .ok (.lcmp, 1) := by decide +kernel
theorem dX6_in_3 : decode cX6_in 3 = .ok (.ifCond .lt 14, 3) := by decide +kernel
theorem dX6_in_6 : decode cX6_in 6 = .ok (.lload_n 0, 1) := by decide +kernel
theorem dX6_in_7 : decode cX6_in 7 = .ok (.lload 4, 2) := by decide +kernel
theorem dX6_in_9 : decode cX6_in 9 = .ok (.lcmp, 1) := by decide +kernel
theorem dX6_in_10 : decode cX6_in 10 = .ok (.ifCond .gt 7, 3) := by decide +kernel
theorem dX6_in_13 : decode cX6_in 13 = .ok (.iconst 1, 1) := by decide +kernel
theorem dX6_in_14 : decode cX6_in 14 = .ok (.goto 4, 3) := by decide +kernel
theorem dX6_in_17 : decode cX6_in 17 = .ok (.iconst 0, 1) := by decide +kernel
theorem dX6_in_18 : decode cX6_in 18 = .ok (.ireturn, 1) := by decide +kernel
theorem dX6_within_0 : decode cX6_within 0 = .ok (.iload_n 0, 1) := by decide +kernel
theorem dX6_within_1 : decode cX6_within 1 = .ok (.iload_n 1, 1) := by decide +kernel
theorem dX6_within_2 : decode cX6_within 2 = .ok (.if_icmp .ge 7, 3) := by decide +kernel
theorem dX6_within_5 : decode cX6_within 5 = .ok (.iload_n 1, 1) := by decide +kernel
theorem dX6_within_6 : decode cX6_within 6 = .ok (.goto 13, 3) := by decide +kernel
theorem dX6_within_9 : decode cX6_within 9 = .ok (.iload_n 0, 1) := by decide +kernel
theorem dX6_within_10 : decode cX6_within 10 = .ok (.iload_n 2, 1) := by decide +kernel
theorem dX6_within_11 : decode cX6_within 11 = .ok (.if_icmp .le 7, 3) := by decide +kernel
theorem dX6_within_14 : decode cX6_within 14 = .ok (.iload_n 2, 1) := by decide +kernel
theorem dX6_within_15 : decode cX6_within 15 = .ok (.goto 4, 3) := by decide +kernel
theorem dX6_within_18 : decode cX6_within 18 = .ok (.iload_n 0, 1) := by decide +kernel
theorem dX6_within_19 : decode cX6_within 19 = .ok (.ireturn, 1) := by decide +kernel
theorem dX6_init_0 : decode cX6_init 0 = .ok (.aload_n 0, 1) := by decide +kernel
theorem dX6_init_1 : decode cX6_init 1 = .ok (.invokespecial 7, 3) := by decide +kernel
theorem dX6_init_4 : decode cX6_init 4 = .ok (.aload_n 0, 1) := by decide +kernel
theorem dX6_init_5 : decode cX6_init 5 = .ok (.sipush 960, 3) := by decide +kernel
theorem dX6_init_8 : decode cX6_init 8 = .ok (.newarray .int, 2) := by decide +kernel
theorem dX6_init_10 : decode cX6_init 10 = .ok (.putfield 13, 3) := by decide +kernel
theorem dX6_init_13 : decode cX6_init 13 = .ok (.aload_n 0, 1) := by decide +kernel
theorem dX6_init_14 : decode cX6_init 14 = .ok (.bipush 6, 2) := by decide +kernel
theorem dX6_init_16 : decode cX6_init 16 = .ok (.newarray .int, 2) := by decide +kernel
theorem dX6_init_18 : decode cX6_init 18 = .ok (.putfield 17, 3) := by decide +kernel
theorem dX6_init_21 : decode cX6_init 21 = .ok (.aload_n 0, 1) := by decide +kernel
theorem dX6_init_22 : decode cX6_init 22 = .ok (.sipush 160, 3) := by decide +kernel
theorem dX6_init_25 : decode cX6_init 25 = .ok (.newarray .int, 2) := by decide +kernel
theorem dX6_init_27 : decode cX6_init 27 = .ok (.putfield 20, 3) := by decide +kernel
theorem dX6_init_30 : decode cX6_init 30 = .ok (.aload_n 0, 1) := by decide +kernel
theorem dX6_init_31 : decode cX6_init 31 = .ok (.bipush 18, 2) := by decide +kernel
theorem dX6_init_33 : decode cX6_init 33 = .ok (.newarray .int, 2) := by decide +kernel
theorem dX6_init_35 : decode cX6_init 35 = .ok (.putfield 23, 3) := by decide +kernel
theorem dX6_init_38 : decode cX6_init 38 = .ok (.aload_n 0, 1) := by decide +kernel
theorem dX6_init_39 : decode cX6_init 39 = .ok (.bipush 6, 2) := by decide +kernel
theorem dX6_init_41 : decode cX6_init 41 = .ok (.newarray .int, 2) := by decide +kernel
theorem dX6_init_43 : decode cX6_init 43 = .ok (.putfield 26, 3) := by decide +kernel
theorem dX6_init_46 : decode cX6_init 46 = .ok (.aload_n 0, 1) := by decide +kernel
theorem dX6_init_47 : decode cX6_init 47 = .ok (.bipush 6, 2) := by decide +kernel
theorem dX6_init_49 : decode cX6_init 49 = .ok (.newarray .int, 2) := by decide +kernel
theorem dX6_init_51 : decode cX6_init 51 = .ok (.putfield 29, 3) := by decide +kernel
theorem dX6_init_54 : decode cX6_init 54 = .ok (.aload_n 0, 1) := by decide +kernel
theorem dX6_init_55 : decode cX6_init 55 = .ok (.bipush 19, 2) := by decide +kernel
theorem dX6_init_57 : decode cX6_init 57 = .ok (.newarray .int, 2) := by decide +kernel
theorem dX6_init_59 : decode cX6_init 59 = .ok (.putfield 32, 3) := by decide +kernel
theorem dX6_init_62 : decode cX6_init 62 = .ok (.aload_n 0, 1) := by decide +kernel
theorem dX6_init_63 : decode cX6_init 63 = .ok (.bipush 6, 2) := by decide +kernel
theorem dX6_init_65 : decode cX6_init 65 = .ok (.newarray .int, 2) := by decide +kernel
theorem dX6_init_67 : decode cX6_init 67 = .ok (.putfield 35, 3) := by decide +kernel
theorem dX6_init_70 : decode cX6_init 70 = .ok (.aload_n 0, 1) := by decide +kernel
theorem dX6_init_71 : decode cX6_init 71 = .ok (.bipush 18, 2) := by decide +kernel
theorem dX6_init_73 : decode cX6_init 73 = .ok (.newarray .int, 2) := by decide +kernel
theorem dX6_init_75 : decode cX6_init 75 = .ok (.putfield 38, 3) := by decide +kernel
theorem dX6_init_78 : decode cX6_init 78 = .ok (.aload_n 0, 1) := by decide +kernel
theorem dX6_init_79 : decode cX6_init 79 = .ok (.bipush 6, 2) := by decide +kernel
theorem dX6_init_81 : decode cX6_init 81 = .ok (.newarray .int, 2) := by decide +kernel
theorem dX6_init_83 : decode cX6_init 83 = .ok (.putfield 41, 3) := by decide +kernel
theorem dX6_init_86 : decode cX6_init 86 = .ok (.aload_n 0, 1) := by decide +kernel
theorem dX6_init_87 : decode cX6_init 87 = .ok (.iconst (-1), 1) := by decide +kernel
theorem dX6_init_88 : decode cX6_init 88 = .ok (.putfield 44, 3) := by decide +kernel
theorem dX6_init_91 : decode cX6_init 91 = .ok (.aload_n 0, 1) := by decide +kernel
theorem dX6_init_92 : decode cX6_init 92 = .ok (.iconst 4, 1) := by decide +kernel
theorem dX6_init_93 : decode cX6_init 93 = .ok (.newarray .boolean, 2) := by decide +kernel
theorem dX6_init_95 : decode cX6_init 95 = .ok (.putfield 47, 3) := by decide +kernel
theorem dX6_init_98 : decode cX6_init 98 = .ok (.aload_n 0, 1) := by decide +kernel
theorem dX6_init_99 : decode cX6_init 99 = .ok (.iconst 4, 1) := by decide +kernel
theorem dX6_init_100 : decode cX6_init 100 = .ok (.newarray .int, 2) := by decide +kernel
theorem dX6_init_102 : decode cX6_init 102 = .ok (.putfield 51, 3) := by decide +kernel
theorem dX6_init_105 : decode cX6_init 105 = .ok (.aload_n 0, 1) := by decide +kernel
theorem dX6_init_106 : decode cX6_init 106 = .ok (.iconst 4, 1) := by decide +kernel
theorem dX6_init_107 : decode cX6_init 107 = .ok (.newarray .int, 2) := by decide +kernel
theorem dX6_init_109 : decode cX6_init 109 = .ok (.putfield 54, 3) := by decide +kernel
theorem dX6_init_112 : decode cX6_init 112 = .ok (.aload_n 0, 1) := by decide +kernel
theorem dX6_init_113 : decode cX6_init 113 = .ok (.sipush 160, 3) := by decide +kernel
theorem dX6_init_116 : decode cX6_init 116 = .ok (.newarray .int, 2) := by decide +kernel
theorem dX6_init_118 : decode cX6_init 118 = .ok (.putfield 57, 3) := by decide +kernel
theorem dX6_init_121 : decode cX6_init 121 = .ok (.aload_n 0, 1) := by decide +kernel
theorem dX6_init_122 : decode cX6_init 122 = .ok (.iconst 0, 1) := by decide +kernel
theorem dX6_init_123 : decode cX6_init 123 = .ok (.bipush 103, 2) := by decide +kernel
theorem dX6_init_125 : decode cX6_init 125 = .ok (.bipush 114, 2) := by decide +kernel
theorem dX6_init_127 : decode cX6_init 127 = .ok (.bipush 105, 2) := by decide +kernel
theorem dX6_init_129 : decode cX6_init 129 = .ok (.bipush 112, 2) := by decide +kernel
theorem dX6_init_131 : decode cX6_init 131 = .ok (.bipush 115, 2) := by decide +kernel
theorem dX6_init_133 : decode cX6_init 133 = .ok (.bipush 32, 2) := by decide +kernel
theorem dX6_init_135 : decode cX6_init 135 = .ok (.bipush 115, 2) := by decide +kernel
theorem dX6_init_137 : decode cX6_init 137 = .ok (.bipush 116, 2) := by decide +kernel
theorem dX6_init_139 : decode cX6_init 139 = .ok (.invokevirtual 60, 3) := by decide +kernel
theorem dX6_init_142 : decode cX6_init 142 = .ok (.aload_n 0, 1) := by decide +kernel
theorem dX6_init_143 : decode cX6_init 143 = .ok (.bipush 8, 2) := by decide +kernel
theorem dX6_init_145 : decode cX6_init 145 = .ok (.bipush 114, 2) := by decide +kernel
theorem dX6_init_147 : decode cX6_init 147 = .ok (.bipush 101, 2) := by decide +kernel
theorem dX6_init_149 : decode cX6_init 149 = .ok (.bipush 110, 2) := by decide +kernel
theorem dX6_init_151 : decode cX6_init 151 = .ok (.bipush 103, 2) := by decide +kernel
theorem dX6_init_153 : decode cX6_init 153 = .ok (.bipush 116, 2) := by decide +kernel
theorem dX6_init_155 : decode cX6_init 155 = .ok (.bipush 104, 2) := by decide +kernel
theorem dX6_init_157 : decode cX6_init 157 = .ok (.bipush 32, 2) := by decide +kernel
theorem dX6_init_159 : decode cX6_init 159 = .ok (.bipush 45, 2) := by decide +kernel
theorem dX6_init_161 : decode cX6_init 161 = .ok (.invokevirtual 60, 3) := by decide +kernel
theorem dX6_init_164 : decode cX6_init 164 = .ok (.aload_n 0, 1) := by decide +kernel
theorem dX6_init_165 : decode cX6_init 165 = .ok (.bipush 16, 2) := by decide +kernel
theorem dX6_init_167 : decode cX6_init 167 = .ok (.bipush 32, 2) := by decide +kernel
theorem dX6_init_169 : decode cX6_init 169 = .ok (.bipush 99, 2) := by decide +kernel
theorem dX6_init_171 : decode cX6_init 171 = .ok (.bipush 111, 2) := by decide +kernel
theorem dX6_init_173 : decode cX6_init 173 = .ok (.bipush 108, 2) := by decide +kernel
theorem dX6_init_175 : decode cX6_init 175 = .ok (.bipush 100, 2) := by decide +kernel
theorem dX6_init_177 : decode cX6_init 177 = .ok (.bipush 32, 2) := by decide +kernel
theorem dX6_init_179 : decode cX6_init 179 = .ok (.bipush 59, 2) := by decide +kernel
theorem dX6_init_181 : decode cX6_init 181 = .ok (.bipush 32, 2) := by decide +kernel
theorem dX6_init_183 : decode cX6_init 183 = .ok (.invokevirtual 60, 3) := by decide +kernel
theorem dX6_init_186 : decode cX6_init 186 = .ok (.aload_n 0, 1) := by decide +kernel
theorem dX6_init_187 : decode cX6_init 187 = .ok (.bipush 24, 2) := by decide +kernel
theorem dX6_init_189 : decode cX6_init 189 = .ok (.bipush 104, 2) := by decide +kernel
theorem dX6_init_191 : decode cX6_init 191 = .ok (.bipush 97, 2) := by decide +kernel
theorem dX6_init_193 : decode cX6_init 193 = .ok (.bipush 110, 2) := by decide +kernel
theorem dX6_init_195 : decode cX6_init 195 = .ok (.bipush 100, 2) := by decide +kernel
theorem dX6_init_197 : decode cX6_init 197 = .ok (.bipush 115, 2) := by decide +kernel
theorem dX6_init_199 : decode cX6_init 199 = .ok (.bipush 32, 2) := by decide +kernel
theorem dX6_init_201 : decode cX6_init 201 = .ok (.bipush 51, 2) := by decide +kernel
theorem dX6_init_203 : decode cX6_init 203 = .ok (.bipush 32, 2) := by decide +kernel
theorem dX6_init_205 : decode cX6_init 205 = .ok (.invokevirtual 60, 3) := by decide +kernel
theorem dX6_init_208 : decode cX6_init 208 = .ok (.aload_n 0, 1) := by decide +kernel
theorem dX6_init_209 : decode cX6_init 209 = .ok (.bipush 32, 2) := by decide +kernel
theorem dX6_init_211 : decode cX6_init 211 = .ok (.bipush 59, 2) := by decide +kernel
theorem dX6_init_213 : decode cX6_init 213 = .ok (.bipush 32, 2) := by decide +kernel
theorem dX6_init_215 : decode cX6_init 215 = .ok (.bipush 116, 2) := by decide +kernel
theorem dX6_init_217 : decode cX6_init 217 = .ok (.bipush 105, 2) := by decide +kernel
theorem dX6_init_219 : decode cX6_init 219 = .ok (.bipush 114, 2) := by decide +kernel
theorem dX6_init_221 : decode cX6_init 221 = .ok (.bipush 101, 2) := by decide +kernel
theorem dX6_init_223 : decode cX6_init 223 = .ok (.bipush 115, 2) := by decide +kernel
theorem dX6_init_225 : decode cX6_init 225 = .ok (.bipush 32, 2) := by decide +kernel
theorem dX6_init_227 : decode cX6_init 227 = .ok (.invokevirtual 60, 3) := by decide +kernel
theorem dX6_init_230 : decode cX6_init 230 = .ok (.aload_n 0, 1) := by decide +kernel
theorem dX6_init_231 : decode cX6_init 231 = .ok (.bipush 40, 2) := by decide +kernel
theorem dX6_init_233 : decode cX6_init 233 = .ok (.bipush 49, 2) := by decide +kernel
theorem dX6_init_235 : decode cX6_init 235 = .ok (.bipush 32, 2) := by decide +kernel
theorem dX6_init_237 : decode cX6_init 237 = .ok (.bipush 59, 2) := by decide +kernel
theorem dX6_init_239 : decode cX6_init 239 = .ok (.bipush 32, 2) := by decide +kernel
theorem dX6_init_241 : decode cX6_init 241 = .ok (.bipush 32, 2) := by decide +kernel
theorem dX6_init_243 : decode cX6_init 243 = .ok (.bipush 32, 2) := by decide +kernel
theorem dX6_init_245 : decode cX6_init 245 = .ok (.bipush 32, 2) := by decide +kernel
theorem dX6_init_247 : decode cX6_init 247 = .ok (.bipush 32, 2) := by decide +kernel
theorem dX6_init_249 : decode cX6_init 249 = .ok (.invokevirtual 60, 3) := by decide +kernel
theorem dX6_init_252 : decode cX6_init 252 = .ok (.aload_n 0, 1) := by decide +kernel
theorem dX6_init_253 : decode cX6_init 253 = .ok (.getfield 17, 3) := by decide +kernel
theorem dX6_init_256 : decode cX6_init 256 = .ok (.iconst 0, 1) := by decide +kernel
theorem dX6_init_257 : decode cX6_init 257 = .ok (.bipush 48, 2) := by decide +kernel
theorem dX6_init_259 : decode cX6_init 259 = .ok (.iastore, 1) := by decide +kernel
theorem dX6_init_260 : decode cX6_init 260 = .ok (.aload_n 0, 1) := by decide +kernel
theorem dX6_init_261 : decode cX6_init 261 = .ok (.iconst 1, 1) := by decide +kernel
theorem dX6_init_262 : decode cX6_init 262 = .ok (.putfield 64, 3) := by decide +kernel
theorem dX6_init_265 : decode cX6_init 265 = .ok (.return_, 1) := by decide +kernel
theorem dX6_spell_0 : decode cX6_spell 0 = .ok (.aload_n 0, 1) := by decide +kernel
theorem dX6_spell_1 : decode cX6_spell 1 = .ok (.getfield 13, 3) := by decide +kernel
theorem dX6_spell_4 : decode cX6_spell 4 = .ok (.iload_n 1, 1) := by decide +kernel
theorem dX6_spell_5 : decode cX6_spell 5 = .ok (.iload_n 2, 1) := by decide +kernel
theorem dX6_spell_6 : decode cX6_spell 6 = .ok (.iastore, 1) := by decide +kernel
theorem dX6_spell_7 : decode cX6_spell 7 = .ok (.aload_n 0, 1) := by decide +kernel
theorem dX6_spell_8 : decode cX6_spell 8 = .ok (.getfield 13, 3) := by decide +kernel
theorem dX6_spell_11 : decode cX6_spell 11 = .ok (.iload_n 1, 1) := by decide +kernel
theorem dX6_spell_12 : decode cX6_spell 12 = .ok (.iconst 1, 1) := by decide +kernel
theorem dX6_spell_13 : decode cX6_spell 13 = .ok (.iadd, 1) := by decide +kernel
theorem dX6_spell_14 : decode cX6_spell 14 = .ok (.iload_n 3, 1) := by decide +kernel
theorem dX6_spell_15 : decode cX6_spell 15 = .ok (.iastore, 1) := by decide +kernel
theorem dX6_spell_16 : decode cX6_spell 16 = .ok (.aload_n 0, 1) := by decide +kernel
theorem dX6_spell_17 : decode cX6_spell 17 = .ok (.getfield 13, 3) := by decide +kernel
theorem dX6_spell_20 : decode cX6_spell 20 = .ok (.iload_n 1, 1) := by decide +kernel
theorem dX6_spell_21 : decode cX6_spell 21 = .ok (.iconst 2, 1) := by decide +kernel
theorem dX6_spell_22 : decode cX6_spell 22 = .ok (.iadd, 1) := by decide +kernel
theorem dX6_spell_23 : decode cX6_spell 23 = .ok (.iload 4, 2) := by decide +kernel
theorem dX6_spell_25 : decode cX6_spell 25 = .ok (.iastore, 1) := by decide +kernel
theorem dX6_spell_26 : decode cX6_spell 26 = .ok (.aload_n 0, 1) := by decide +kernel
theorem dX6_spell_27 : decode cX6_spell 27 = .ok (.getfield 13, 3) := by decide +kernel
theorem dX6_spell_30 : decode cX6_spell 30 = .ok (.iload_n 1, 1) := by decide +kernel
theorem dX6_spell_31 : decode cX6_spell 31 = .ok (.iconst 3, 1) := by decide +kernel
theorem dX6_spell_32 : decode cX6_spell 32 = .ok (.iadd, 1) := by decide +kernel
theorem dX6_spell_33 : decode cX6_spell 33 = .ok (.iload 5, 2) := by decide +kernel
theorem dX6_spell_35 : decode cX6_spell 35 = .ok (.iastore, 1) := by decide +kernel
theorem dX6_spell_36 : decode cX6_spell 36 = .ok (.aload_n 0, 1) := by decide +kernel
theorem dX6_spell_37 : decode cX6_spell 37 = .ok (.getfield 13, 3) := by decide +kernel
theorem dX6_spell_40 : decode cX6_spell 40 = .ok (.iload_n 1, 1) := by decide +kernel
theorem dX6_spell_41 : decode cX6_spell 41 = .ok (.iconst 4, 1) := by decide +kernel
theorem dX6_spell_42 : decode cX6_spell 42 = .ok (.iadd, 1) := by decide +kernel
theorem dX6_spell_43 : decode cX6_spell 43 = .ok (.iload 6, 2) := by decide +kernel
theorem dX6_spell_45 : decode cX6_spell 45 = .ok (.iastore, 1) := by decide +kernel
theorem dX6_spell_46 : decode cX6_spell 46 = .ok (.aload_n 0, 1) := by decide +kernel
theorem dX6_spell_47 : decode cX6_spell 47 = .ok (.getfield 13, 3) := by decide +kernel
theorem dX6_spell_50 : decode cX6_spell 50 = .ok (.iload_n 1, 1) := by decide +kernel
theorem dX6_spell_51 : decode cX6_spell 51 = .ok (.iconst 5, 1) := by decide +kernel
theorem dX6_spell_52 : decode cX6_spell 52 = .ok (.iadd, 1) := by decide +kernel
theorem dX6_spell_53 : decode cX6_spell 53 = .ok (.iload 7, 2) := by decide +kernel
theorem dX6_spell_55 : decode cX6_spell 55 = .ok (.iastore, 1) := by decide +kernel
theorem dX6_spell_56 : decode cX6_spell 56 = .ok (.aload_n 0, 1) := by decide +kernel
theorem dX6_spell_57 : decode cX6_spell 57 = .ok (.getfield 13, 3) := by decide +kernel
theorem dX6_spell_60 : decode cX6_spell 60 = .ok (.iload_n 1, 1) := by decide +kernel
theorem dX6_spell_61 : decode cX6_spell 61 = .ok (.bipush 6, 2) := by decide +kernel
theorem dX6_spell_63 : decode cX6_spell 63 = .ok (.iadd, 1) := by decide +kernel
theorem dX6_spell_64 : decode cX6_spell 64 = .ok (.iload 8, 2) := by decide +kernel
theorem dX6_spell_66 : decode cX6_spell 66 = .ok (.iastore, 1) := by decide +kernel
theorem dX6_spell_67 : decode cX6_spell 67 = .ok (.aload_n 0, 1) := by decide +kernel
theorem dX6_spell_68 : decode cX6_spell 68 = .ok (.getfield 13, 3) := by decide +kernel
theorem dX6_spell_71 : decode cX6_spell 71 = .ok (.iload_n 1, 1) := by decide +kernel
theorem dX6_spell_72 : decode cX6_spell 72 = .ok (.bipush 7, 2) := by decide +kernel
theorem dX6_spell_74 : decode cX6_spell 74 = .ok (.iadd, 1) := by decide +kernel
theorem dX6_spell_75 : decode cX6_spell 75 = .ok (.iload 9, 2) := by decide +kernel
theorem dX6_spell_77 : decode cX6_spell 77 = .ok (.iastore, 1) := by decide +kernel
theorem dX6_spell_78 : decode cX6_spell 78 = .ok (.return_, 1) := by decide +kernel
theorem dX6_isOne_0 : decode cX6_isOne 0 = .ok (.iload_n 1, 1) := by decide +kernel
theorem dX6_isOne_1 : decode cX6_isOne 1 = .ok (.i2l, 1) := by decide +kernel
theorem dX6_isOne_2 : decode cX6_isOne 2 = .ok (.lconst 0, 1) := by decide +kernel
theorem dX6_isOne_3 : decode cX6_isOne 3 = .ok (.aload_n 0, 1) := by decide +kernel
theorem dX6_isOne_4 : decode cX6_isOne 4 = .ok (.getfield 67, 3) := by decide +kernel
theorem dX6_isOne_7 : decode cX6_isOne 7 = .ok (.iconst 1, 1) := by decide +kernel
theorem dX6_isOne_8 : decode cX6_isOne 8 = .ok (.isub, 1) := by decide +kernel
theorem dX6_isOne_9 : decode cX6_isOne 9 = .ok (.i2l, 1) := by decide +kernel
theorem dX6_isOne_10 : decode cX6_isOne 10 = .ok (.invokestatic 70, 3) := by decide +kernel
theorem dX6_isOne_13 : decode cX6_isOne 13 = .ok (.ireturn, 1) := by decide +kernel
theorem dX6_areTwo_0 : decode cX6_areTwo 0 = .ok (.aload_n 0, 1) := by decide +kernel
theorem dX6_areTwo_1 : decode cX6_areTwo 1 = .ok (.iload_n 1, 1) := by decide +kernel
theorem dX6_areTwo_2 : decode cX6_areTwo 2 = .ok (.invokevirtual 74, 3) := by decide +kernel
theorem dX6_areTwo_5 : decode cX6_areTwo 5 = .ok (.ifCond .eq 20, 3) := by decide +kernel
theorem dX6_areTwo_8 : decode cX6_areTwo 8 = .ok (.aload_n 0, 1) := by decide +kernel
theorem dX6_areTwo_9 : decode cX6_areTwo 9 = .ok (.iload_n 2, 1) := by decide +kernel
theorem dX6_areTwo_10 : decode cX6_areTwo 10 = .ok (.invokevirtual 74, 3) := by decide +kernel
theorem dX6_areTwo_13 : decode cX6_areTwo 13 = .ok (.ifCond .eq 12, 3) := by decide +kernel
theorem dX6_areTwo_16 : decode cX6_areTwo 16 = .ok (.iload_n 1, 1) := by decide +kernel
theorem dX6_areTwo_17 : decode cX6_areTwo 17 = .ok (.iload_n 2, 1) := by decide +kernel
theorem dX6_areTwo_18 : decode cX6_areTwo 18 = .ok (.if_icmp .eq 7, 3) := by decide +kernel
theorem dX6_areTwo_21 : decode cX6_areTwo 21 = .ok (.iconst 1, 1) := by decide +kernel
theorem dX6_areTwo_22 : decode cX6_areTwo 22 = .ok (.goto 4, 3) := by decide +kernel
theorem dX6_areTwo_25 : decode cX6_areTwo 25 = .ok (.iconst 0, 1) := by decide +kernel
theorem dX6_areTwo_26 : decode cX6_areTwo 26 = .ok (.ireturn, 1) := by decide +kernel
theorem dX6_isPlace_0 : decode cX6_isPlace 0 = .ok (.iload_n 1, 1) := by decide +kernel
theorem dX6_isPlace_1 : decode cX6_isPlace 1 = .ok (.i2l, 1) := by decide +kernel
theorem dX6_isPlace_2 : decode cX6_isPlace 2 = .ok (.lconst 0, 1) := by decide +kernel
theorem dX6_isPlace_3 : decode cX6_isPlace 3 = .ok (.aload_n 0, 1) := by decide +kernel
theorem dX6_isPlace_4 : decode cX6_isPlace 4 = .ok (.getfield 78, 3) := by decide +kernel
theorem dX6_isPlace_7 : decode cX6_isPlace 7 = .ok (.iconst 1, 1) := by decide +kernel
theorem dX6_isPlace_8 : decode cX6_isPlace 8 = .ok (.isub, 1) := by decide +kernel
theorem dX6_isPlace_9 : decode cX6_isPlace 9 = .ok (.i2l, 1) := by decide +kernel
theorem dX6_isPlace_10 : decode cX6_isPlace 10 = .ok (.invokestatic 70, 3) := by decide +kernel
theorem dX6_isPlace_13 : decode cX6_isPlace 13 = .ok (.ireturn, 1) := by decide +kernel
theorem dX6_isOf_0 : decode cX6_isOf 0 = .ok (.iload_n 1, 1) := by decide +kernel
theorem dX6_isOf_1 : decode cX6_isOf 1 = .ok (.iconst 2, 1) := by decide +kernel
theorem dX6_isOf_2 : decode cX6_isOf 2 = .ok (.if_icmp .ge 5, 3) := by decide +kernel
theorem dX6_isOf_5 : decode cX6_isOf 5 = .ok (.iconst 1, 1) := by decide +kernel
theorem dX6_isOf_6 : decode cX6_isOf 6 = .ok (.ireturn, 1) := by decide +kernel
theorem dX6_isOf_7 : decode cX6_isOf 7 = .ok (.iload_n 1, 1) := by decide +kernel
theorem dX6_isOf_8 : decode cX6_isOf 8 = .ok (.bipush 7, 2) := by decide +kernel
theorem dX6_isOf_10 : decode cX6_isOf 10 = .ok (.if_icmp .ge 11, 3) := by decide +kernel
theorem dX6_isOf_13 : decode cX6_isOf 13 = .ok (.aload_n 0, 1) := by decide +kernel
theorem dX6_isOf_14 : decode cX6_isOf 14 = .ok (.iload_n 2, 1) := by decide +kernel
theorem dX6_isOf_15 : decode cX6_isOf 15 = .ok (.invokevirtual 74, 3) := by decide +kernel
theorem dX6_isOf_18 : decode cX6_isOf 18 = .ok (.goto 30, 3) := by decide +kernel
theorem dX6_isOf_21 : decode cX6_isOf 21 = .ok (.aload_n 0, 1) := by decide +kernel
theorem dX6_isOf_22 : decode cX6_isOf 22 = .ok (.iload_n 2, 1) := by decide +kernel
theorem dX6_isOf_23 : decode cX6_isOf 23 = .ok (.invokevirtual 81, 3) := by decide +kernel
theorem dX6_isOf_26 : decode cX6_isOf 26 = .ok (.ifCond .eq 21, 3) := by decide +kernel
theorem dX6_isOf_29 : decode cX6_isOf 29 = .ok (.iload_n 1, 1) := by decide +kernel
theorem dX6_isOf_30 : decode cX6_isOf 30 = .ok (.bipush 7, 2) := by decide +kernel
theorem dX6_isOf_32 : decode cX6_isOf 32 = .ok (.if_icmp .eq 11, 3) := by decide +kernel
theorem dX6_isOf_35 : decode cX6_isOf 35 = .ok (.aload_n 0, 1) := by decide +kernel
theorem dX6_isOf_36 : decode cX6_isOf 36 = .ok (.getfield 78, 3) := by decide +kernel
theorem dX6_isOf_39 : decode cX6_isOf 39 = .ok (.iconst 1, 1) := by decide +kernel
theorem dX6_isOf_40 : decode cX6_isOf 40 = .ok (.if_icmp .le 7, 3) := by decide +kernel
theorem dX6_isOf_43 : decode cX6_isOf 43 = .ok (.iconst 1, 1) := by decide +kernel
theorem dX6_isOf_44 : decode cX6_isOf 44 = .ok (.goto 4, 3) := by decide +kernel
theorem dX6_isOf_47 : decode cX6_isOf 47 = .ok (.iconst 0, 1) := by decide +kernel
theorem dX6_isOf_48 : decode cX6_isOf 48 = .ok (.ireturn, 1) := by decide +kernel
theorem dX6_mostOf_0 : decode cX6_mostOf 0 = .ok (.iload_n 0, 1) := by decide +kernel
theorem dX6_mostOf_1 : decode cX6_mostOf 1 = .ok (.ifCond .ne 9, 3) := by decide +kernel
theorem dX6_mostOf_4 : decode cX6_mostOf 4 = .ok (.sipush 999, 3) := by decide +kernel
theorem dX6_mostOf_7 : decode cX6_mostOf 7 = .ok (.goto 15, 3) := by decide +kernel
theorem dX6_mostOf_10 : decode cX6_mostOf 10 = .ok (.iload_n 0, 1) := by decide +kernel
theorem dX6_mostOf_11 : decode cX6_mostOf 11 = .ok (.iconst 2, 1) := by decide +kernel
theorem dX6_mostOf_12 : decode cX6_mostOf 12 = .ok (.if_icmp .ne 8, 3) := by decide +kernel
theorem dX6_mostOf_15 : decode cX6_mostOf 15 = .ok (.bipush 9, 2) := by decide +kernel
theorem dX6_mostOf_17 : decode cX6_mostOf 17 = .ok (.goto 5, 3) := by decide +kernel
theorem dX6_mostOf_20 : decode cX6_mostOf 20 = .ok (.bipush 99, 2) := by decide +kernel
theorem dX6_mostOf_22 : decode cX6_mostOf 22 = .ok (.ireturn, 1) := by decide +kernel
theorem dX6_set_0 : decode cX6_set 0 = .ok (.iload_n 1, 1) := by decide +kernel
theorem dX6_set_1 : decode cX6_set 1 = .ok (.i2l, 1) := by decide +kernel
theorem dX6_set_2 : decode cX6_set 2 = .ok (.lconst 0, 1) := by decide +kernel
theorem dX6_set_3 : decode cX6_set 3 = .ok (.ldc2_w 84, 3) := by decide +kernel
theorem dX6_set_6 : decode cX6_set 6 = .ok (.invokestatic 70, 3) := by decide +kernel
theorem dX6_set_9 : decode cX6_set 9 = .ok (.ifCond .eq 26, 3) := by decide +kernel
theorem dX6_set_12 : decode cX6_set 12 = .ok (.aload_n 0, 1) := by decide +kernel
theorem dX6_set_13 : decode cX6_set 13 = .ok (.iload_n 1, 1) := by decide +kernel
theorem dX6_set_14 : decode cX6_set 14 = .ok (.iload_n 2, 1) := by decide +kernel
theorem dX6_set_15 : decode cX6_set 15 = .ok (.invokevirtual 86, 3) := by decide +kernel
theorem dX6_set_18 : decode cX6_set 18 = .ok (.ifCond .eq 17, 3) := by decide +kernel
theorem dX6_set_21 : decode cX6_set 21 = .ok (.iload_n 3, 1) := by decide +kernel
theorem dX6_set_22 : decode cX6_set 22 = .ok (.i2l, 1) := by decide +kernel
theorem dX6_set_23 : decode cX6_set 23 = .ok (.lconst 0, 1) := by decide +kernel
theorem dX6_set_24 : decode cX6_set 24 = .ok (.iload_n 1, 1) := by decide +kernel
theorem dX6_set_25 : decode cX6_set 25 = .ok (.invokestatic 90, 3) := by decide +kernel
theorem dX6_set_28 : decode cX6_set 28 = .ok (.i2l, 1) := by decide +kernel
theorem dX6_set_29 : decode cX6_set 29 = .ok (.invokestatic 70, 3) := by decide +kernel
theorem dX6_set_32 : decode cX6_set 32 = .ok (.ifCond .ne 6, 3) := by decide +kernel
theorem dX6_set_35 : decode cX6_set 35 = .ok (.bipush (-2), 2) := by decide +kernel
theorem dX6_set_37 : decode cX6_set 37 = .ok (.ireturn, 1) := by decide +kernel
theorem dX6_set_38 : decode cX6_set 38 = .ok (.aload_n 0, 1) := by decide +kernel
theorem dX6_set_39 : decode cX6_set 39 = .ok (.iload_n 2, 1) := by decide +kernel
theorem dX6_set_40 : decode cX6_set 40 = .ok (.iload_n 1, 1) := by decide +kernel
theorem dX6_set_41 : decode cX6_set 41 = .ok (.invokevirtual 94, 3) := by decide +kernel
theorem dX6_set_44 : decode cX6_set 44 = .ok (.istore 4, 2) := by decide +kernel
theorem dX6_set_46 : decode cX6_set 46 = .ok (.aload_n 0, 1) := by decide +kernel
theorem dX6_set_47 : decode cX6_set 47 = .ok (.iload_n 1, 1) := by decide +kernel
theorem dX6_set_48 : decode cX6_set 48 = .ok (.iload_n 2, 1) := by decide +kernel
theorem dX6_set_49 : decode cX6_set 49 = .ok (.iload_n 3, 1) := by decide +kernel
theorem dX6_set_50 : decode cX6_set 50 = .ok (.invokevirtual 98, 3) := by decide +kernel
theorem dX6_set_53 : decode cX6_set 53 = .ok (.iload 4, 2) := by decide +kernel
theorem dX6_set_55 : decode cX6_set 55 = .ok (.ireturn, 1) := by decide +kernel
theorem dX6_lays_0 : decode cX6_lays 0 = .ok (.iload_n 1, 1) := by decide +kernel
theorem dX6_lays_1 : decode cX6_lays 1 = .ok (.iconst 2, 1) := by decide +kernel
theorem dX6_lays_2 : decode cX6_lays 2 = .ok (.if_icmp .ge 39, 3) := by decide +kernel
theorem dX6_lays_5 : decode cX6_lays 5 = .ok (.aload_n 0, 1) := by decide +kernel
theorem dX6_lays_6 : decode cX6_lays 6 = .ok (.iload_n 1, 1) := by decide +kernel
theorem dX6_lays_7 : decode cX6_lays 7 = .ok (.ifCond .ne 7, 3) := by decide +kernel
theorem dX6_lays_10 : decode cX6_lays 10 = .ok (.iload_n 3, 1) := by decide +kernel
theorem dX6_lays_11 : decode cX6_lays 11 = .ok (.goto 7, 3) := by decide +kernel
theorem dX6_lays_14 : decode cX6_lays 14 = .ok (.aload_n 0, 1) := by decide +kernel
theorem dX6_lays_15 : decode cX6_lays 15 = .ok (.getfield 102, 3) := by decide +kernel
theorem dX6_lays_18 : decode cX6_lays 18 = .ok (.putfield 102, 3) := by decide +kernel
theorem dX6_lays_21 : decode cX6_lays 21 = .ok (.aload_n 0, 1) := by decide +kernel
theorem dX6_lays_22 : decode cX6_lays 22 = .ok (.iload_n 1, 1) := by decide +kernel
theorem dX6_lays_23 : decode cX6_lays 23 = .ok (.iconst 1, 1) := by decide +kernel
theorem dX6_lays_24 : decode cX6_lays 24 = .ok (.if_icmp .ne 7, 3) := by decide +kernel
theorem dX6_lays_27 : decode cX6_lays 27 = .ok (.iload_n 3, 1) := by decide +kernel
theorem dX6_lays_28 : decode cX6_lays 28 = .ok (.goto 7, 3) := by decide +kernel
theorem dX6_lays_31 : decode cX6_lays 31 = .ok (.aload_n 0, 1) := by decide +kernel
theorem dX6_lays_32 : decode cX6_lays 32 = .ok (.getfield 105, 3) := by decide +kernel
theorem dX6_lays_35 : decode cX6_lays 35 = .ok (.putfield 105, 3) := by decide +kernel
theorem dX6_lays_38 : decode cX6_lays 38 = .ok (.goto 29, 3) := by decide +kernel
theorem dX6_lays_41 : decode cX6_lays 41 = .ok (.iload_n 1, 1) := by decide +kernel
theorem dX6_lays_42 : decode cX6_lays 42 = .ok (.iconst 5, 1) := by decide +kernel
theorem dX6_lays_43 : decode cX6_lays 43 = .ok (.if_icmp .ge 19, 3) := by decide +kernel
theorem dX6_lays_46 : decode cX6_lays 46 = .ok (.aload_n 0, 1) := by decide +kernel
theorem dX6_lays_47 : decode cX6_lays 47 = .ok (.getfield 23, 3) := by decide +kernel
theorem dX6_lays_50 : decode cX6_lays 50 = .ok (.iconst 3, 1) := by decide +kernel
theorem dX6_lays_51 : decode cX6_lays 51 = .ok (.iload_n 2, 1) := by decide +kernel
theorem dX6_lays_52 : decode cX6_lays 52 = .ok (.imul, 1) := by decide +kernel
theorem dX6_lays_53 : decode cX6_lays 53 = .ok (.iload_n 1, 1) := by decide +kernel
theorem dX6_lays_54 : decode cX6_lays 54 = .ok (.iadd, 1) := by decide +kernel
theorem dX6_lays_55 : decode cX6_lays 55 = .ok (.iconst 2, 1) := by decide +kernel
theorem dX6_lays_56 : decode cX6_lays 56 = .ok (.isub, 1) := by decide +kernel
theorem dX6_lays_57 : decode cX6_lays 57 = .ok (.iload_n 3, 1) := by decide +kernel
theorem dX6_lays_58 : decode cX6_lays 58 = .ok (.iastore, 1) := by decide +kernel
theorem dX6_lays_59 : decode cX6_lays 59 = .ok (.goto 8, 3) := by decide +kernel
theorem dX6_lays_62 : decode cX6_lays 62 = .ok (.aload_n 0, 1) := by decide +kernel
theorem dX6_lays_63 : decode cX6_lays 63 = .ok (.iload_n 3, 1) := by decide +kernel
theorem dX6_lays_64 : decode cX6_lays 64 = .ok (.putfield 108, 3) := by decide +kernel
theorem dX6_lays_67 : decode cX6_lays 67 = .ok (.return_, 1) := by decide +kernel
theorem dX6_man_0 : decode cX6_man 0 = .ok (.iload_n 1, 1) := by decide +kernel
theorem dX6_man_1 : decode cX6_man 1 = .ok (.i2l, 1) := by decide +kernel
theorem dX6_man_2 : decode cX6_man 2 = .ok (.lconst 0, 1) := by decide +kernel
theorem dX6_man_3 : decode cX6_man 3 = .ok (.ldc2_w 111, 3) := by decide +kernel
theorem dX6_man_6 : decode cX6_man 6 = .ok (.invokestatic 70, 3) := by decide +kernel
theorem dX6_man_9 : decode cX6_man 9 = .ok (.ifCond .eq 27, 3) := by decide +kernel
theorem dX6_man_12 : decode cX6_man 12 = .ok (.iload_n 2, 1) := by decide +kernel
theorem dX6_man_13 : decode cX6_man 13 = .ok (.i2l, 1) := by decide +kernel
theorem dX6_man_14 : decode cX6_man 14 = .ok (.lconst 0, 1) := by decide +kernel
theorem dX6_man_15 : decode cX6_man 15 = .ok (.ldc2_w 113, 3) := by decide +kernel
theorem dX6_man_18 : decode cX6_man 18 = .ok (.invokestatic 70, 3) := by decide +kernel
theorem dX6_man_21 : decode cX6_man 21 = .ok (.ifCond .eq 15, 3) := by decide +kernel
theorem dX6_man_24 : decode cX6_man 24 = .ok (.iload_n 3, 1) := by decide +kernel
theorem dX6_man_25 : decode cX6_man 25 = .ok (.i2l, 1) := by decide +kernel
theorem dX6_man_26 : decode cX6_man 26 = .ok (.lconst 0, 1) := by decide +kernel
theorem dX6_man_27 : decode cX6_man 27 = .ok (.ldc2_w 115, 3) := by decide +kernel
theorem dX6_man_30 : decode cX6_man 30 = .ok (.invokestatic 70, 3) := by decide +kernel
theorem dX6_man_33 : decode cX6_man 33 = .ok (.ifCond .ne 6, 3) := by decide +kernel
theorem dX6_man_36 : decode cX6_man 36 = .ok (.bipush (-2), 2) := by decide +kernel
theorem dX6_man_38 : decode cX6_man 38 = .ok (.ireturn, 1) := by decide +kernel
theorem dX6_man_39 : decode cX6_man 39 = .ok (.aload_n 0, 1) := by decide +kernel
theorem dX6_man_40 : decode cX6_man 40 = .ok (.getfield 67, 3) := by decide +kernel
theorem dX6_man_43 : decode cX6_man 43 = .ok (.bipush 6, 2) := by decide +kernel
theorem dX6_man_45 : decode cX6_man 45 = .ok (.if_icmp .ne 6, 3) := by decide +kernel
theorem dX6_man_48 : decode cX6_man 48 = .ok (.bipush (-4), 2) := by decide +kernel
theorem dX6_man_50 : decode cX6_man 50 = .ok (.ireturn, 1) := by decide +kernel
theorem dX6_man_51 : decode cX6_man 51 = .ok (.aload_n 0, 1) := by decide +kernel
theorem dX6_man_52 : decode cX6_man 52 = .ok (.getfield 23, 3) := by decide +kernel
theorem dX6_man_55 : decode cX6_man 55 = .ok (.iconst 3, 1) := by decide +kernel
theorem dX6_man_56 : decode cX6_man 56 = .ok (.aload_n 0, 1) := by decide +kernel
theorem dX6_man_57 : decode cX6_man 57 = .ok (.getfield 67, 3) := by decide +kernel
theorem dX6_man_60 : decode cX6_man 60 = .ok (.imul, 1) := by decide +kernel
theorem dX6_man_61 : decode cX6_man 61 = .ok (.iload_n 2, 1) := by decide +kernel
theorem dX6_man_62 : decode cX6_man 62 = .ok (.iastore, 1) := by decide +kernel
theorem dX6_man_63 : decode cX6_man 63 = .ok (.aload_n 0, 1) := by decide +kernel
theorem dX6_man_64 : decode cX6_man 64 = .ok (.getfield 23, 3) := by decide +kernel
theorem dX6_man_67 : decode cX6_man 67 = .ok (.iconst 3, 1) := by decide +kernel
theorem dX6_man_68 : decode cX6_man 68 = .ok (.aload_n 0, 1) := by decide +kernel
theorem dX6_man_69 : decode cX6_man 69 = .ok (.getfield 67, 3) := by decide +kernel
theorem dX6_man_72 : decode cX6_man 72 = .ok (.imul, 1) := by decide +kernel
theorem dX6_man_73 : decode cX6_man 73 = .ok (.iconst 1, 1) := by decide +kernel
theorem dX6_man_74 : decode cX6_man 74 = .ok (.iadd, 1) := by decide +kernel
theorem dX6_man_75 : decode cX6_man 75 = .ok (.iload_n 3, 1) := by decide +kernel
theorem dX6_man_76 : decode cX6_man 76 = .ok (.iastore, 1) := by decide +kernel
theorem dX6_man_77 : decode cX6_man 77 = .ok (.aload_n 0, 1) := by decide +kernel
theorem dX6_man_78 : decode cX6_man 78 = .ok (.getfield 23, 3) := by decide +kernel
theorem dX6_man_81 : decode cX6_man 81 = .ok (.iconst 3, 1) := by decide +kernel
theorem dX6_man_82 : decode cX6_man 82 = .ok (.aload_n 0, 1) := by decide +kernel
theorem dX6_man_83 : decode cX6_man 83 = .ok (.getfield 67, 3) := by decide +kernel
theorem dX6_man_86 : decode cX6_man 86 = .ok (.imul, 1) := by decide +kernel
theorem dX6_man_87 : decode cX6_man 87 = .ok (.iconst 2, 1) := by decide +kernel
theorem dX6_man_88 : decode cX6_man 88 = .ok (.iadd, 1) := by decide +kernel
theorem dX6_man_89 : decode cX6_man 89 = .ok (.iload_n 1, 1) := by decide +kernel
theorem dX6_man_90 : decode cX6_man 90 = .ok (.iastore, 1) := by decide +kernel
theorem dX6_man_91 : decode cX6_man 91 = .ok (.aload_n 0, 1) := by decide +kernel
theorem dX6_man_92 : decode cX6_man 92 = .ok (.getfield 26, 3) := by decide +kernel
theorem dX6_man_95 : decode cX6_man 95 = .ok (.aload_n 0, 1) := by decide +kernel
theorem dX6_man_96 : decode cX6_man 96 = .ok (.getfield 78, 3) := by decide +kernel
theorem dX6_man_99 : decode cX6_man 99 = .ok (.aload_n 0, 1) := by decide +kernel
theorem dX6_man_100 : decode cX6_man 100 = .ok (.getfield 67, 3) := by decide +kernel
theorem dX6_man_103 : decode cX6_man 103 = .ok (.iastore, 1) := by decide +kernel
theorem dX6_man_104 : decode cX6_man 104 = .ok (.aload_n 0, 1) := by decide +kernel
theorem dX6_man_105 : decode cX6_man 105 = .ok (.dup, 1) := by decide +kernel
theorem dX6_man_106 : decode cX6_man 106 = .ok (.getfield 78, 3) := by decide +kernel
theorem dX6_man_109 : decode cX6_man 109 = .ok (.iconst 1, 1) := by decide +kernel
theorem dX6_man_110 : decode cX6_man 110 = .ok (.iadd, 1) := by decide +kernel
theorem dX6_man_111 : decode cX6_man 111 = .ok (.putfield 78, 3) := by decide +kernel
theorem dX6_man_114 : decode cX6_man 114 = .ok (.aload_n 0, 1) := by decide +kernel
theorem dX6_man_115 : decode cX6_man 115 = .ok (.dup, 1) := by decide +kernel
theorem dX6_man_116 : decode cX6_man 116 = .ok (.getfield 67, 3) := by decide +kernel
theorem dX6_man_119 : decode cX6_man 119 = .ok (.iconst 1, 1) := by decide +kernel
theorem dX6_man_120 : decode cX6_man 120 = .ok (.iadd, 1) := by decide +kernel
theorem dX6_man_121 : decode cX6_man 121 = .ok (.putfield 67, 3) := by decide +kernel
theorem dX6_man_124 : decode cX6_man 124 = .ok (.aload_n 0, 1) := by decide +kernel
theorem dX6_man_125 : decode cX6_man 125 = .ok (.getfield 67, 3) := by decide +kernel
theorem dX6_man_128 : decode cX6_man 128 = .ok (.iconst 1, 1) := by decide +kernel
theorem dX6_man_129 : decode cX6_man 129 = .ok (.isub, 1) := by decide +kernel
theorem dX6_man_130 : decode cX6_man 130 = .ok (.ireturn, 1) := by decide +kernel
theorem dX6_told_0 : decode cX6_told 0 = .ok (.iload_n 2, 1) := by decide +kernel
theorem dX6_told_1 : decode cX6_told 1 = .ok (.i2l, 1) := by decide +kernel
theorem dX6_told_2 : decode cX6_told 2 = .ok (.lconst 0, 1) := by decide +kernel
theorem dX6_told_3 : decode cX6_told 3 = .ok (.ldc2_w 117, 3) := by decide +kernel
theorem dX6_told_6 : decode cX6_told 6 = .ok (.invokestatic 70, 3) := by decide +kernel
theorem dX6_told_9 : decode cX6_told 9 = .ok (.ifCond .eq 12, 3) := by decide +kernel
theorem dX6_told_12 : decode cX6_told 12 = .ok (.aload_n 0, 1) := by decide +kernel
theorem dX6_told_13 : decode cX6_told 13 = .ok (.iload_n 2, 1) := by decide +kernel
theorem dX6_told_14 : decode cX6_told 14 = .ok (.iload_n 1, 1) := by decide +kernel
theorem dX6_told_15 : decode cX6_told 15 = .ok (.invokevirtual 86, 3) := by decide +kernel
theorem dX6_told_18 : decode cX6_told 18 = .ok (.ifCond .ne 7, 3) := by decide +kernel
theorem dX6_told_21 : decode cX6_told 21 = .ok (.sipush (-1000), 3) := by decide +kernel
theorem dX6_told_24 : decode cX6_told 24 = .ok (.ireturn, 1) := by decide +kernel
theorem dX6_told_25 : decode cX6_told 25 = .ok (.iload_n 2, 1) := by decide +kernel
theorem dX6_told_26 : decode cX6_told 26 = .ok (.iconst 5, 1) := by decide +kernel
theorem dX6_told_27 : decode cX6_told 27 = .ok (.if_icmp .ge 39, 3) := by decide +kernel
theorem dX6_told_30 : decode cX6_told 30 = .ok (.iload_n 2, 1) := by decide +kernel
theorem dX6_told_31 : decode cX6_told 31 = .ok (.ifCond .ne 10, 3) := by decide +kernel
theorem dX6_told_34 : decode cX6_told 34 = .ok (.aload_n 0, 1) := by decide +kernel
theorem dX6_told_35 : decode cX6_told 35 = .ok (.getfield 102, 3) := by decide +kernel
theorem dX6_told_38 : decode cX6_told 38 = .ok (.goto 27, 3) := by decide +kernel
theorem dX6_told_41 : decode cX6_told 41 = .ok (.iload_n 2, 1) := by decide +kernel
theorem dX6_told_42 : decode cX6_told 42 = .ok (.iconst 1, 1) := by decide +kernel
theorem dX6_told_43 : decode cX6_told 43 = .ok (.if_icmp .ne 10, 3) := by decide +kernel
theorem dX6_told_46 : decode cX6_told 46 = .ok (.aload_n 0, 1) := by decide +kernel
theorem dX6_told_47 : decode cX6_told 47 = .ok (.getfield 105, 3) := by decide +kernel
theorem dX6_told_50 : decode cX6_told 50 = .ok (.goto 15, 3) := by decide +kernel
theorem dX6_told_53 : decode cX6_told 53 = .ok (.aload_n 0, 1) := by decide +kernel
theorem dX6_told_54 : decode cX6_told 54 = .ok (.getfield 23, 3) := by decide +kernel
theorem dX6_told_57 : decode cX6_told 57 = .ok (.iconst 3, 1) := by decide +kernel
theorem dX6_told_58 : decode cX6_told 58 = .ok (.iload_n 1, 1) := by decide +kernel
theorem dX6_told_59 : decode cX6_told 59 = .ok (.imul, 1) := by decide +kernel
theorem dX6_told_60 : decode cX6_told 60 = .ok (.iload_n 2, 1) := by decide +kernel
theorem dX6_told_61 : decode cX6_told 61 = .ok (.iadd, 1) := by decide +kernel
theorem dX6_told_62 : decode cX6_told 62 = .ok (.iconst 2, 1) := by decide +kernel
theorem dX6_told_63 : decode cX6_told 63 = .ok (.isub, 1) := by decide +kernel
theorem dX6_told_64 : decode cX6_told 64 = .ok (.iaload, 1) := by decide +kernel
theorem dX6_told_65 : decode cX6_told 65 = .ok (.ireturn, 1) := by decide +kernel
theorem dX6_told_66 : decode cX6_told 66 = .ok (.iload_n 2, 1) := by decide +kernel
theorem dX6_told_67 : decode cX6_told 67 = .ok (.iconst 5, 1) := by decide +kernel
theorem dX6_told_68 : decode cX6_told 68 = .ok (.if_icmp .ne 11, 3) := by decide +kernel
theorem dX6_told_71 : decode cX6_told 71 = .ok (.aload_n 0, 1) := by decide +kernel
theorem dX6_told_72 : decode cX6_told 72 = .ok (.iload_n 1, 1) := by decide +kernel
theorem dX6_told_73 : decode cX6_told 73 = .ok (.invokevirtual 119, 3) := by decide +kernel
theorem dX6_told_76 : decode cX6_told 76 = .ok (.goto 37, 3) := by decide +kernel
theorem dX6_told_79 : decode cX6_told 79 = .ok (.iload_n 2, 1) := by decide +kernel
theorem dX6_told_80 : decode cX6_told 80 = .ok (.bipush 6, 2) := by decide +kernel
theorem dX6_told_82 : decode cX6_told 82 = .ok (.if_icmp .ne 11, 3) := by decide +kernel
theorem dX6_told_85 : decode cX6_told 85 = .ok (.aload_n 0, 1) := by decide +kernel
theorem dX6_told_86 : decode cX6_told 86 = .ok (.iload_n 1, 1) := by decide +kernel
theorem dX6_told_87 : decode cX6_told 87 = .ok (.invokevirtual 122, 3) := by decide +kernel
theorem dX6_told_90 : decode cX6_told 90 = .ok (.goto 23, 3) := by decide +kernel
theorem dX6_told_93 : decode cX6_told 93 = .ok (.iload_n 2, 1) := by decide +kernel
theorem dX6_told_94 : decode cX6_told 94 = .ok (.bipush 7, 2) := by decide +kernel
theorem dX6_told_96 : decode cX6_told 96 = .ok (.if_icmp .ne 12, 3) := by decide +kernel
theorem dX6_told_99 : decode cX6_told 99 = .ok (.aload_n 0, 1) := by decide +kernel
theorem dX6_told_100 : decode cX6_told 100 = .ok (.getfield 26, 3) := by decide +kernel
theorem dX6_told_103 : decode cX6_told 103 = .ok (.iload_n 1, 1) := by decide +kernel
theorem dX6_told_104 : decode cX6_told 104 = .ok (.iaload, 1) := by decide +kernel
theorem dX6_told_105 : decode cX6_told 105 = .ok (.goto 8, 3) := by decide +kernel
theorem dX6_told_108 : decode cX6_told 108 = .ok (.aload_n 0, 1) := by decide +kernel
theorem dX6_told_109 : decode cX6_told 109 = .ok (.iload_n 1, 1) := by decide +kernel
theorem dX6_told_110 : decode cX6_told 110 = .ok (.invokevirtual 125, 3) := by decide +kernel
theorem dX6_told_113 : decode cX6_told 113 = .ok (.ireturn, 1) := by decide +kernel
theorem dX6_placeOf_0 : decode cX6_placeOf 0 = .ok (.iconst (-1), 1) := by decide +kernel
theorem dX6_placeOf_1 : decode cX6_placeOf 1 = .ok (.istore_n 2, 1) := by decide +kernel
theorem dX6_placeOf_2 : decode cX6_placeOf 2 = .ok (.iconst 0, 1) := by decide +kernel
theorem dX6_placeOf_3 : decode cX6_placeOf 3 = .ok (.istore_n 3, 1) := by decide +kernel
theorem dX6_placeOf_4 : decode cX6_placeOf 4 = .ok (.iload_n 3, 1) := by decide +kernel
theorem dX6_placeOf_5 : decode cX6_placeOf 5 = .ok (.aload_n 0, 1) := by decide +kernel
theorem dX6_placeOf_6 : decode cX6_placeOf 6 = .ok (.getfield 78, 3) := by decide +kernel
theorem dX6_placeOf_9 : decode cX6_placeOf 9 = .ok (.if_icmp .ge 25, 3) := by decide +kernel
theorem dX6_placeOf_12 : decode cX6_placeOf 12 = .ok (.aload_n 0, 1) := by decide +kernel
theorem dX6_placeOf_13 : decode cX6_placeOf 13 = .ok (.getfield 26, 3) := by decide +kernel
theorem dX6_placeOf_16 : decode cX6_placeOf 16 = .ok (.iload_n 3, 1) := by decide +kernel
theorem dX6_placeOf_17 : decode cX6_placeOf 17 = .ok (.iaload, 1) := by decide +kernel
theorem dX6_placeOf_18 : decode cX6_placeOf 18 = .ok (.iload_n 1, 1) := by decide +kernel
theorem dX6_placeOf_19 : decode cX6_placeOf 19 = .ok (.if_icmp .ne 7, 3) := by decide +kernel
theorem dX6_placeOf_22 : decode cX6_placeOf 22 = .ok (.iload_n 3, 1) := by decide +kernel
theorem dX6_placeOf_23 : decode cX6_placeOf 23 = .ok (.goto 4, 3) := by decide +kernel
theorem dX6_placeOf_26 : decode cX6_placeOf 26 = .ok (.iload_n 2, 1) := by decide +kernel
theorem dX6_placeOf_27 : decode cX6_placeOf 27 = .ok (.istore_n 2, 1) := by decide +kernel
theorem dX6_placeOf_28 : decode cX6_placeOf 28 = .ok (.iinc 3 1, 3) := by decide +kernel
theorem dX6_placeOf_31 : decode cX6_placeOf 31 = .ok (.goto (-27), 3) := by decide +kernel
theorem dX6_placeOf_34 : decode cX6_placeOf 34 = .ok (.iload_n 2, 1) := by decide +kernel
theorem dX6_placeOf_35 : decode cX6_placeOf 35 = .ok (.ireturn, 1) := by decide +kernel
theorem dX6_feed_0 : decode cX6_feed 0 = .ok (.iload_n 1, 1) := by decide +kernel
theorem dX6_feed_1 : decode cX6_feed 1 = .ok (.i2l, 1) := by decide +kernel
theorem dX6_feed_2 : decode cX6_feed 2 = .ok (.lconst 0, 1) := by decide +kernel
theorem dX6_feed_3 : decode cX6_feed 3 = .ok (.ldc2_w 128, 3) := by decide +kernel
theorem dX6_feed_6 : decode cX6_feed 6 = .ok (.invokestatic 70, 3) := by decide +kernel
theorem dX6_feed_9 : decode cX6_feed 9 = .ok (.ifCond .ne 6, 3) := by decide +kernel
theorem dX6_feed_12 : decode cX6_feed 12 = .ok (.bipush (-2), 2) := by decide +kernel
theorem dX6_feed_14 : decode cX6_feed 14 = .ok (.ireturn, 1) := by decide +kernel
theorem dX6_feed_15 : decode cX6_feed 15 = .ok (.aload_n 0, 1) := by decide +kernel
theorem dX6_feed_16 : decode cX6_feed 16 = .ok (.getfield 130, 3) := by decide +kernel
theorem dX6_feed_19 : decode cX6_feed 19 = .ok (.sipush 160, 3) := by decide +kernel
theorem dX6_feed_22 : decode cX6_feed 22 = .ok (.if_icmp .ne 6, 3) := by decide +kernel
theorem dX6_feed_25 : decode cX6_feed 25 = .ok (.bipush (-4), 2) := by decide +kernel
theorem dX6_feed_27 : decode cX6_feed 27 = .ok (.ireturn, 1) := by decide +kernel
theorem dX6_feed_28 : decode cX6_feed 28 = .ok (.aload_n 0, 1) := by decide +kernel
theorem dX6_feed_29 : decode cX6_feed 29 = .ok (.getfield 20, 3) := by decide +kernel
theorem dX6_feed_32 : decode cX6_feed 32 = .ok (.aload_n 0, 1) := by decide +kernel
theorem dX6_feed_33 : decode cX6_feed 33 = .ok (.getfield 130, 3) := by decide +kernel
theorem dX6_feed_36 : decode cX6_feed 36 = .ok (.iload_n 1, 1) := by decide +kernel
theorem dX6_feed_37 : decode cX6_feed 37 = .ok (.iastore, 1) := by decide +kernel
theorem dX6_feed_38 : decode cX6_feed 38 = .ok (.aload_n 0, 1) := by decide +kernel
theorem dX6_feed_39 : decode cX6_feed 39 = .ok (.dup, 1) := by decide +kernel
theorem dX6_feed_40 : decode cX6_feed 40 = .ok (.getfield 130, 3) := by decide +kernel
theorem dX6_feed_43 : decode cX6_feed 43 = .ok (.iconst 1, 1) := by decide +kernel
theorem dX6_feed_44 : decode cX6_feed 44 = .ok (.iadd, 1) := by decide +kernel
theorem dX6_feed_45 : decode cX6_feed 45 = .ok (.putfield 130, 3) := by decide +kernel
theorem dX6_feed_48 : decode cX6_feed 48 = .ok (.aload_n 0, 1) := by decide +kernel
theorem dX6_feed_49 : decode cX6_feed 49 = .ok (.getfield 130, 3) := by decide +kernel
theorem dX6_feed_52 : decode cX6_feed 52 = .ok (.ireturn, 1) := by decide +kernel
theorem dX6_byteAt_0 : decode cX6_byteAt 0 = .ok (.iload_n 1, 1) := by decide +kernel
theorem dX6_byteAt_1 : decode cX6_byteAt 1 = .ok (.aload_n 0, 1) := by decide +kernel
theorem dX6_byteAt_2 : decode cX6_byteAt 2 = .ok (.getfield 133, 3) := by decide +kernel
theorem dX6_byteAt_5 : decode cX6_byteAt 5 = .ok (.if_icmp .ge 17, 3) := by decide +kernel
theorem dX6_byteAt_8 : decode cX6_byteAt 8 = .ok (.aload_n 0, 1) := by decide +kernel
theorem dX6_byteAt_9 : decode cX6_byteAt 9 = .ok (.getfield 13, 3) := by decide +kernel
theorem dX6_byteAt_12 : decode cX6_byteAt 12 = .ok (.aload_n 0, 1) := by decide +kernel
theorem dX6_byteAt_13 : decode cX6_byteAt 13 = .ok (.getfield 136, 3) := by decide +kernel
theorem dX6_byteAt_16 : decode cX6_byteAt 16 = .ok (.iload_n 1, 1) := by decide +kernel
theorem dX6_byteAt_17 : decode cX6_byteAt 17 = .ok (.iadd, 1) := by decide +kernel
theorem dX6_byteAt_18 : decode cX6_byteAt 18 = .ok (.iaload, 1) := by decide +kernel
theorem dX6_byteAt_19 : decode cX6_byteAt 19 = .ok (.goto 4, 3) := by decide +kernel
theorem dX6_byteAt_22 : decode cX6_byteAt 22 = .ok (.iconst (-1), 1) := by decide +kernel
theorem dX6_byteAt_23 : decode cX6_byteAt 23 = .ok (.ireturn, 1) := by decide +kernel
theorem dX6_next_0 : decode cX6_next 0 = .ok (.aload_n 0, 1) := by decide +kernel
theorem dX6_next_1 : decode cX6_next 1 = .ok (.aload_n 0, 1) := by decide +kernel
theorem dX6_next_2 : decode cX6_next 2 = .ok (.getfield 139, 3) := by decide +kernel
theorem dX6_next_5 : decode cX6_next 5 = .ok (.invokevirtual 142, 3) := by decide +kernel
theorem dX6_next_8 : decode cX6_next 8 = .ok (.bipush 32, 2) := by decide +kernel
theorem dX6_next_10 : decode cX6_next 10 = .ok (.if_icmp .eq 16, 3) := by decide +kernel
theorem dX6_next_13 : decode cX6_next 13 = .ok (.aload_n 0, 1) := by decide +kernel
theorem dX6_next_14 : decode cX6_next 14 = .ok (.aload_n 0, 1) := by decide +kernel
theorem dX6_next_15 : decode cX6_next 15 = .ok (.getfield 139, 3) := by decide +kernel
theorem dX6_next_18 : decode cX6_next 18 = .ok (.invokevirtual 142, 3) := by decide +kernel
theorem dX6_next_21 : decode cX6_next 21 = .ok (.bipush 10, 2) := by decide +kernel
theorem dX6_next_23 : decode cX6_next 23 = .ok (.if_icmp .ne 16, 3) := by decide +kernel
theorem dX6_next_26 : decode cX6_next 26 = .ok (.aload_n 0, 1) := by decide +kernel
theorem dX6_next_27 : decode cX6_next 27 = .ok (.dup, 1) := by decide +kernel
theorem dX6_next_28 : decode cX6_next 28 = .ok (.getfield 139, 3) := by decide +kernel
theorem dX6_next_31 : decode cX6_next 31 = .ok (.iconst 1, 1) := by decide +kernel
theorem dX6_next_32 : decode cX6_next 32 = .ok (.iadd, 1) := by decide +kernel
theorem dX6_next_33 : decode cX6_next 33 = .ok (.putfield 139, 3) := by decide +kernel
theorem dX6_next_36 : decode cX6_next 36 = .ok (.goto (-36), 3) := by decide +kernel
theorem dX6_next_39 : decode cX6_next 39 = .ok (.aload_n 0, 1) := by decide +kernel
theorem dX6_next_40 : decode cX6_next 40 = .ok (.aload_n 0, 1) := by decide +kernel
theorem dX6_next_41 : decode cX6_next 41 = .ok (.getfield 139, 3) := by decide +kernel
theorem dX6_next_44 : decode cX6_next 44 = .ok (.putfield 145, 3) := by decide +kernel
theorem dX6_next_47 : decode cX6_next 47 = .ok (.aload_n 0, 1) := by decide +kernel
theorem dX6_next_48 : decode cX6_next 48 = .ok (.aload_n 0, 1) := by decide +kernel
theorem dX6_next_49 : decode cX6_next 49 = .ok (.getfield 139, 3) := by decide +kernel
theorem dX6_next_52 : decode cX6_next 52 = .ok (.invokevirtual 142, 3) := by decide +kernel
theorem dX6_next_55 : decode cX6_next 55 = .ok (.istore_n 1, 1) := by decide +kernel
theorem dX6_next_56 : decode cX6_next 56 = .ok (.aload_n 0, 1) := by decide +kernel
theorem dX6_next_57 : decode cX6_next 57 = .ok (.iconst 4, 1) := by decide +kernel
theorem dX6_next_58 : decode cX6_next 58 = .ok (.putfield 148, 3) := by decide +kernel
theorem dX6_next_61 : decode cX6_next 61 = .ok (.iload_n 1, 1) := by decide +kernel
theorem dX6_next_62 : decode cX6_next 62 = .ok (.ifCond .ge 19, 3) := by decide +kernel
theorem dX6_next_65 : decode cX6_next 65 = .ok (.aload_n 0, 1) := by decide +kernel
theorem dX6_next_66 : decode cX6_next 66 = .ok (.iconst 0, 1) := by decide +kernel
theorem dX6_next_67 : decode cX6_next 67 = .ok (.putfield 148, 3) := by decide +kernel
theorem dX6_next_70 : decode cX6_next 70 = .ok (.aload_n 0, 1) := by decide +kernel
theorem dX6_next_71 : decode cX6_next 71 = .ok (.aload_n 0, 1) := by decide +kernel
theorem dX6_next_72 : decode cX6_next 72 = .ok (.getfield 133, 3) := by decide +kernel
theorem dX6_next_75 : decode cX6_next 75 = .ok (.putfield 145, 3) := by decide +kernel
theorem dX6_next_78 : decode cX6_next 78 = .ok (.goto 243, 3) := by decide +kernel
theorem dX6_next_81 : decode cX6_next 81 = .ok (.iload_n 1, 1) := by decide +kernel
theorem dX6_next_82 : decode cX6_next 82 = .ok (.i2l, 1) := by decide +kernel
theorem dX6_next_83 : decode cX6_next 83 = .ok (.ldc2_w 151, 3) := by decide +kernel
theorem dX6_next_86 : decode cX6_next 86 = .ok (.ldc2_w 153, 3) := by decide +kernel
theorem dX6_next_89 : decode cX6_next 89 = .ok (.invokestatic 70, 3) := by decide +kernel
theorem dX6_next_92 : decode cX6_next 92 = .ok (.ifCond .eq 42, 3) := by decide +kernel
theorem dX6_next_95 : decode cX6_next 95 = .ok (.aload_n 0, 1) := by decide +kernel
theorem dX6_next_96 : decode cX6_next 96 = .ok (.iconst 1, 1) := by decide +kernel
theorem dX6_next_97 : decode cX6_next 97 = .ok (.putfield 148, 3) := by decide +kernel
theorem dX6_next_100 : decode cX6_next 100 = .ok (.aload_n 0, 1) := by decide +kernel
theorem dX6_next_101 : decode cX6_next 101 = .ok (.aload_n 0, 1) := by decide +kernel
theorem dX6_next_102 : decode cX6_next 102 = .ok (.getfield 139, 3) := by decide +kernel
theorem dX6_next_105 : decode cX6_next 105 = .ok (.invokevirtual 142, 3) := by decide +kernel
theorem dX6_next_108 : decode cX6_next 108 = .ok (.i2l, 1) := by decide +kernel
theorem dX6_next_109 : decode cX6_next 109 = .ok (.ldc2_w 151, 3) := by decide +kernel
theorem dX6_next_112 : decode cX6_next 112 = .ok (.ldc2_w 153, 3) := by decide +kernel
theorem dX6_next_115 : decode cX6_next 115 = .ok (.invokestatic 70, 3) := by decide +kernel
theorem dX6_next_118 : decode cX6_next 118 = .ok (.ifCond .eq 203, 3) := by decide +kernel
theorem dX6_next_121 : decode cX6_next 121 = .ok (.aload_n 0, 1) := by decide +kernel
theorem dX6_next_122 : decode cX6_next 122 = .ok (.dup, 1) := by decide +kernel
theorem dX6_next_123 : decode cX6_next 123 = .ok (.getfield 139, 3) := by decide +kernel
theorem dX6_next_126 : decode cX6_next 126 = .ok (.iconst 1, 1) := by decide +kernel
theorem dX6_next_127 : decode cX6_next 127 = .ok (.iadd, 1) := by decide +kernel
theorem dX6_next_128 : decode cX6_next 128 = .ok (.putfield 139, 3) := by decide +kernel
theorem dX6_next_131 : decode cX6_next 131 = .ok (.goto (-31), 3) := by decide +kernel
theorem dX6_next_134 : decode cX6_next 134 = .ok (.iload_n 1, 1) := by decide +kernel
theorem dX6_next_135 : decode cX6_next 135 = .ok (.i2l, 1) := by decide +kernel
theorem dX6_next_136 : decode cX6_next 136 = .ok (.ldc2_w 155, 3) := by decide +kernel
theorem dX6_next_139 : decode cX6_next 139 = .ok (.ldc2_w 157, 3) := by decide +kernel
theorem dX6_next_142 : decode cX6_next 142 = .ok (.invokestatic 70, 3) := by decide +kernel
theorem dX6_next_145 : decode cX6_next 145 = .ok (.ifCond .eq 107, 3) := by decide +kernel
theorem dX6_next_148 : decode cX6_next 148 = .ok (.aload_n 0, 1) := by decide +kernel
theorem dX6_next_149 : decode cX6_next 149 = .ok (.iconst 2, 1) := by decide +kernel
theorem dX6_next_150 : decode cX6_next 150 = .ok (.putfield 148, 3) := by decide +kernel
theorem dX6_next_153 : decode cX6_next 153 = .ok (.aload_n 0, 1) := by decide +kernel
theorem dX6_next_154 : decode cX6_next 154 = .ok (.lconst 0, 1) := by decide +kernel
theorem dX6_next_155 : decode cX6_next 155 = .ok (.putfield 159, 3) := by decide +kernel
theorem dX6_next_158 : decode cX6_next 158 = .ok (.iconst 0, 1) := by decide +kernel
theorem dX6_next_159 : decode cX6_next 159 = .ok (.istore_n 2, 1) := by decide +kernel
theorem dX6_next_160 : decode cX6_next 160 = .ok (.aload_n 0, 1) := by decide +kernel
theorem dX6_next_161 : decode cX6_next 161 = .ok (.aload_n 0, 1) := by decide +kernel
theorem dX6_next_162 : decode cX6_next 162 = .ok (.getfield 139, 3) := by decide +kernel
theorem dX6_next_165 : decode cX6_next 165 = .ok (.invokevirtual 142, 3) := by decide +kernel
theorem dX6_next_168 : decode cX6_next 168 = .ok (.i2l, 1) := by decide +kernel
theorem dX6_next_169 : decode cX6_next 169 = .ok (.ldc2_w 155, 3) := by decide +kernel
theorem dX6_next_172 : decode cX6_next 172 = .ok (.ldc2_w 157, 3) := by decide +kernel
theorem dX6_next_175 : decode cX6_next 175 = .ok (.invokestatic 70, 3) := by decide +kernel
theorem dX6_next_178 : decode cX6_next 178 = .ok (.ifCond .eq 57, 3) := by decide +kernel
theorem dX6_next_181 : decode cX6_next 181 = .ok (.aload_n 0, 1) := by decide +kernel
theorem dX6_next_182 : decode cX6_next 182 = .ok (.iload_n 2, 1) := by decide +kernel
theorem dX6_next_183 : decode cX6_next 183 = .ok (.iconst 4, 1) := by decide +kernel
theorem dX6_next_184 : decode cX6_next 184 = .ok (.if_icmp .ge 28, 3) := by decide +kernel
theorem dX6_next_187 : decode cX6_next 187 = .ok (.ldc2_w 163, 3) := by decide +kernel
theorem dX6_next_190 : decode cX6_next 190 = .ok (.aload_n 0, 1) := by decide +kernel
theorem dX6_next_191 : decode cX6_next 191 = .ok (.getfield 159, 3) := by decide +kernel
theorem dX6_next_194 : decode cX6_next 194 = .ok (.lmul, 1) := by decide +kernel
theorem dX6_next_195 : decode cX6_next 195 = .ok (.aload_n 0, 1) := by decide +kernel
theorem dX6_next_196 : decode cX6_next 196 = .ok (.aload_n 0, 1) := by decide +kernel
theorem dX6_next_197 : decode cX6_next 197 = .ok (.getfield 139, 3) := by decide +kernel
theorem dX6_next_200 : decode cX6_next 200 = .ok (.invokevirtual 142, 3) := by decide +kernel
theorem dX6_next_203 : decode cX6_next 203 = .ok (.i2l, 1) := by decide +kernel
theorem dX6_next_204 : decode cX6_next 204 = .ok (.ladd, 1) := by decide +kernel
theorem dX6_next_205 : decode cX6_next 205 = .ok (.ldc2_w 155, 3) := by decide +kernel
theorem dX6_next_208 : decode cX6_next 208 = .ok (.lsub, 1) := by decide +kernel
theorem dX6_next_209 : decode cX6_next 209 = .ok (.goto 7, 3) := by decide +kernel
theorem dX6_next_212 : decode cX6_next 212 = .ok (.aload_n 0, 1) := by decide +kernel
theorem dX6_next_213 : decode cX6_next 213 = .ok (.getfield 159, 3) := by decide +kernel
theorem dX6_next_216 : decode cX6_next 216 = .ok (.putfield 159, 3) := by decide +kernel
theorem dX6_next_219 : decode cX6_next 219 = .ok (.iinc 2 1, 3) := by decide +kernel
theorem dX6_next_222 : decode cX6_next 222 = .ok (.aload_n 0, 1) := by decide +kernel
theorem dX6_next_223 : decode cX6_next 223 = .ok (.dup, 1) := by decide +kernel
theorem dX6_next_224 : decode cX6_next 224 = .ok (.getfield 139, 3) := by decide +kernel
theorem dX6_next_227 : decode cX6_next 227 = .ok (.iconst 1, 1) := by decide +kernel
theorem dX6_next_228 : decode cX6_next 228 = .ok (.iadd, 1) := by decide +kernel
theorem dX6_next_229 : decode cX6_next 229 = .ok (.putfield 139, 3) := by decide +kernel
theorem dX6_next_232 : decode cX6_next 232 = .ok (.goto (-72), 3) := by decide +kernel
theorem dX6_next_235 : decode cX6_next 235 = .ok (.aload_n 0, 1) := by decide +kernel
theorem dX6_next_236 : decode cX6_next 236 = .ok (.iload_n 2, 1) := by decide +kernel
theorem dX6_next_237 : decode cX6_next 237 = .ok (.iconst 4, 1) := by decide +kernel
theorem dX6_next_238 : decode cX6_next 238 = .ok (.if_icmp .le 7, 3) := by decide +kernel
theorem dX6_next_241 : decode cX6_next 241 = .ok (.iconst 4, 1) := by decide +kernel
theorem dX6_next_242 : decode cX6_next 242 = .ok (.goto 4, 3) := by decide +kernel
theorem dX6_next_245 : decode cX6_next 245 = .ok (.iconst 2, 1) := by decide +kernel
theorem dX6_next_246 : decode cX6_next 246 = .ok (.putfield 148, 3) := by decide +kernel
theorem dX6_next_249 : decode cX6_next 249 = .ok (.goto 72, 3) := by decide +kernel
theorem dX6_next_252 : decode cX6_next 252 = .ok (.iload_n 1, 1) := by decide +kernel
theorem dX6_next_253 : decode cX6_next 253 = .ok (.bipush 40, 2) := by decide +kernel
theorem dX6_next_255 : decode cX6_next 255 = .ok (.if_icmp .eq 45, 3) := by decide +kernel
theorem dX6_next_258 : decode cX6_next 258 = .ok (.iload_n 1, 1) := by decide +kernel
theorem dX6_next_259 : decode cX6_next 259 = .ok (.bipush 41, 2) := by decide +kernel
theorem dX6_next_261 : decode cX6_next 261 = .ok (.if_icmp .eq 39, 3) := by decide +kernel
theorem dX6_next_264 : decode cX6_next 264 = .ok (.iload_n 1, 1) := by decide +kernel
theorem dX6_next_265 : decode cX6_next 265 = .ok (.bipush 59, 2) := by decide +kernel
theorem dX6_next_267 : decode cX6_next 267 = .ok (.if_icmp .eq 33, 3) := by decide +kernel
theorem dX6_next_270 : decode cX6_next 270 = .ok (.iload_n 1, 1) := by decide +kernel
theorem dX6_next_271 : decode cX6_next 271 = .ok (.bipush 43, 2) := by decide +kernel
theorem dX6_next_273 : decode cX6_next 273 = .ok (.if_icmp .eq 27, 3) := by decide +kernel
theorem dX6_next_276 : decode cX6_next 276 = .ok (.iload_n 1, 1) := by decide +kernel
theorem dX6_next_277 : decode cX6_next 277 = .ok (.bipush 45, 2) := by decide +kernel
theorem dX6_next_279 : decode cX6_next 279 = .ok (.if_icmp .eq 21, 3) := by decide +kernel
theorem dX6_next_282 : decode cX6_next 282 = .ok (.iload_n 1, 1) := by decide +kernel
theorem dX6_next_283 : decode cX6_next 283 = .ok (.bipush 42, 2) := by decide +kernel
theorem dX6_next_285 : decode cX6_next 285 = .ok (.if_icmp .eq 15, 3) := by decide +kernel
theorem dX6_next_288 : decode cX6_next 288 = .ok (.iload_n 1, 1) := by decide +kernel
theorem dX6_next_289 : decode cX6_next 289 = .ok (.bipush 60, 2) := by decide +kernel
theorem dX6_next_291 : decode cX6_next 291 = .ok (.if_icmp .eq 9, 3) := by decide +kernel
theorem dX6_next_294 : decode cX6_next 294 = .ok (.iload_n 1, 1) := by decide +kernel
theorem dX6_next_295 : decode cX6_next 295 = .ok (.bipush 61, 2) := by decide +kernel
theorem dX6_next_297 : decode cX6_next 297 = .ok (.if_icmp .ne 24, 3) := by decide +kernel
theorem dX6_next_300 : decode cX6_next 300 = .ok (.aload_n 0, 1) := by decide +kernel
theorem dX6_next_301 : decode cX6_next 301 = .ok (.iconst 3, 1) := by decide +kernel
theorem dX6_next_302 : decode cX6_next 302 = .ok (.putfield 148, 3) := by decide +kernel
theorem dX6_next_305 : decode cX6_next 305 = .ok (.aload_n 0, 1) := by decide +kernel
theorem dX6_next_306 : decode cX6_next 306 = .ok (.iload_n 1, 1) := by decide +kernel
theorem dX6_next_307 : decode cX6_next 307 = .ok (.i2l, 1) := by decide +kernel
theorem dX6_next_308 : decode cX6_next 308 = .ok (.putfield 159, 3) := by decide +kernel
theorem dX6_next_311 : decode cX6_next 311 = .ok (.aload_n 0, 1) := by decide +kernel
theorem dX6_next_312 : decode cX6_next 312 = .ok (.dup, 1) := by decide +kernel
theorem dX6_next_313 : decode cX6_next 313 = .ok (.getfield 139, 3) := by decide +kernel
theorem dX6_next_316 : decode cX6_next 316 = .ok (.iconst 1, 1) := by decide +kernel
theorem dX6_next_317 : decode cX6_next 317 = .ok (.iadd, 1) := by decide +kernel
theorem dX6_next_318 : decode cX6_next 318 = .ok (.putfield 139, 3) := by decide +kernel
theorem dX6_next_321 : decode cX6_next 321 = .ok (.return_, 1) := by decide +kernel
theorem dX6_fail_0 : decode cX6_fail 0 = .ok (.aload_n 0, 1) := by decide +kernel
theorem dX6_fail_1 : decode cX6_fail 1 = .ok (.getfield 165, 3) := by decide +kernel
theorem dX6_fail_4 : decode cX6_fail 4 = .ok (.ifCond .ne 16, 3) := by decide +kernel
theorem dX6_fail_7 : decode cX6_fail 7 = .ok (.aload_n 0, 1) := by decide +kernel
theorem dX6_fail_8 : decode cX6_fail 8 = .ok (.iconst 1, 1) := by decide +kernel
theorem dX6_fail_9 : decode cX6_fail 9 = .ok (.putfield 165, 3) := by decide +kernel
theorem dX6_fail_12 : decode cX6_fail 12 = .ok (.aload_n 0, 1) := by decide +kernel
theorem dX6_fail_13 : decode cX6_fail 13 = .ok (.aload_n 0, 1) := by decide +kernel
theorem dX6_fail_14 : decode cX6_fail 14 = .ok (.getfield 145, 3) := by decide +kernel
theorem dX6_fail_17 : decode cX6_fail 17 = .ok (.putfield 169, 3) := by decide +kernel
theorem dX6_fail_20 : decode cX6_fail 20 = .ok (.return_, 1) := by decide +kernel
theorem dX6_isLetter_0 : decode cX6_isLetter 0 = .ok (.aload_n 0, 1) := by decide +kernel
theorem dX6_isLetter_1 : decode cX6_isLetter 1 = .ok (.getfield 145, 3) := by decide +kernel
theorem dX6_isLetter_4 : decode cX6_isLetter 4 = .ok (.iload_n 1, 1) := by decide +kernel
theorem dX6_isLetter_5 : decode cX6_isLetter 5 = .ok (.iadd, 1) := by decide +kernel
theorem dX6_isLetter_6 : decode cX6_isLetter 6 = .ok (.aload_n 0, 1) := by decide +kernel
theorem dX6_isLetter_7 : decode cX6_isLetter 7 = .ok (.getfield 139, 3) := by decide +kernel
theorem dX6_isLetter_10 : decode cX6_isLetter 10 = .ok (.if_icmp .ge 25, 3) := by decide +kernel
theorem dX6_isLetter_13 : decode cX6_isLetter 13 = .ok (.aload_n 0, 1) := by decide +kernel
theorem dX6_isLetter_14 : decode cX6_isLetter 14 = .ok (.aload_n 0, 1) := by decide +kernel
theorem dX6_isLetter_15 : decode cX6_isLetter 15 = .ok (.getfield 145, 3) := by decide +kernel
theorem dX6_isLetter_18 : decode cX6_isLetter 18 = .ok (.iload_n 1, 1) := by decide +kernel
theorem dX6_isLetter_19 : decode cX6_isLetter 19 = .ok (.iadd, 1) := by decide +kernel
theorem dX6_isLetter_20 : decode cX6_isLetter 20 = .ok (.invokevirtual 142, 3) := by decide +kernel
theorem dX6_isLetter_23 : decode cX6_isLetter 23 = .ok (.iload_n 2, 1) := by decide +kernel
theorem dX6_isLetter_24 : decode cX6_isLetter 24 = .ok (.if_icmp .ne 7, 3) := by decide +kernel
theorem dX6_isLetter_27 : decode cX6_isLetter 27 = .ok (.iconst 1, 1) := by decide +kernel
theorem dX6_isLetter_28 : decode cX6_isLetter 28 = .ok (.goto 16, 3) := by decide +kernel
theorem dX6_isLetter_31 : decode cX6_isLetter 31 = .ok (.iconst 0, 1) := by decide +kernel
theorem dX6_isLetter_32 : decode cX6_isLetter 32 = .ok (.goto 12, 3) := by decide +kernel
theorem dX6_isLetter_35 : decode cX6_isLetter 35 = .ok (.iload_n 2, 1) := by decide +kernel
theorem dX6_isLetter_36 : decode cX6_isLetter 36 = .ok (.ifCond .ne 7, 3) := by decide +kernel
theorem dX6_isLetter_39 : decode cX6_isLetter 39 = .ok (.iconst 1, 1) := by decide +kernel
theorem dX6_isLetter_40 : decode cX6_isLetter 40 = .ok (.goto 4, 3) := by decide +kernel
theorem dX6_isLetter_43 : decode cX6_isLetter 43 = .ok (.iconst 0, 1) := by decide +kernel
theorem dX6_isLetter_44 : decode cX6_isLetter 44 = .ok (.ireturn, 1) := by decide +kernel
theorem dX6_isWord_0 : decode cX6_isWord 0 = .ok (.aload_n 0, 1) := by decide +kernel
theorem dX6_isWord_1 : decode cX6_isWord 1 = .ok (.getfield 165, 3) := by decide +kernel
theorem dX6_isWord_4 : decode cX6_isWord 4 = .ok (.ifCond .ne 108, 3) := by decide +kernel
theorem dX6_isWord_7 : decode cX6_isWord 7 = .ok (.aload_n 0, 1) := by decide +kernel
theorem dX6_isWord_8 : decode cX6_isWord 8 = .ok (.getfield 148, 3) := by decide +kernel
theorem dX6_isWord_11 : decode cX6_isWord 11 = .ok (.iconst 1, 1) := by decide +kernel
theorem dX6_isWord_12 : decode cX6_isWord 12 = .ok (.if_icmp .ne 100, 3) := by decide +kernel
theorem dX6_isWord_15 : decode cX6_isWord 15 = .ok (.aload_n 0, 1) := by decide +kernel
theorem dX6_isWord_16 : decode cX6_isWord 16 = .ok (.getfield 139, 3) := by decide +kernel
theorem dX6_isWord_19 : decode cX6_isWord 19 = .ok (.aload_n 0, 1) := by decide +kernel
theorem dX6_isWord_20 : decode cX6_isWord 20 = .ok (.getfield 145, 3) := by decide +kernel
theorem dX6_isWord_23 : decode cX6_isWord 23 = .ok (.bipush 8, 2) := by decide +kernel
theorem dX6_isWord_25 : decode cX6_isWord 25 = .ok (.iadd, 1) := by decide +kernel
theorem dX6_isWord_26 : decode cX6_isWord 26 = .ok (.if_icmp .gt 86, 3) := by decide +kernel
theorem dX6_isWord_29 : decode cX6_isWord 29 = .ok (.aload_n 0, 1) := by decide +kernel
theorem dX6_isWord_30 : decode cX6_isWord 30 = .ok (.iconst 0, 1) := by decide +kernel
theorem dX6_isWord_31 : decode cX6_isWord 31 = .ok (.iload_n 1, 1) := by decide +kernel
theorem dX6_isWord_32 : decode cX6_isWord 32 = .ok (.invokevirtual 172, 3) := by decide +kernel
theorem dX6_isWord_35 : decode cX6_isWord 35 = .ok (.ifCond .eq 77, 3) := by decide +kernel
theorem dX6_isWord_38 : decode cX6_isWord 38 = .ok (.aload_n 0, 1) := by decide +kernel
theorem dX6_isWord_39 : decode cX6_isWord 39 = .ok (.iconst 1, 1) := by decide +kernel
theorem dX6_isWord_40 : decode cX6_isWord 40 = .ok (.iload_n 2, 1) := by decide +kernel
theorem dX6_isWord_41 : decode cX6_isWord 41 = .ok (.invokevirtual 172, 3) := by decide +kernel
theorem dX6_isWord_44 : decode cX6_isWord 44 = .ok (.ifCond .eq 68, 3) := by decide +kernel
theorem dX6_isWord_47 : decode cX6_isWord 47 = .ok (.aload_n 0, 1) := by decide +kernel
theorem dX6_isWord_48 : decode cX6_isWord 48 = .ok (.iconst 2, 1) := by decide +kernel
theorem dX6_isWord_49 : decode cX6_isWord 49 = .ok (.iload_n 3, 1) := by decide +kernel
theorem dX6_isWord_50 : decode cX6_isWord 50 = .ok (.invokevirtual 172, 3) := by decide +kernel
theorem dX6_isWord_53 : decode cX6_isWord 53 = .ok (.ifCond .eq 59, 3) := by decide +kernel
theorem dX6_isWord_56 : decode cX6_isWord 56 = .ok (.aload_n 0, 1) := by decide +kernel
theorem dX6_isWord_57 : decode cX6_isWord 57 = .ok (.iconst 3, 1) := by decide +kernel
theorem dX6_isWord_58 : decode cX6_isWord 58 = .ok (.iload 4, 2) := by decide +kernel
theorem dX6_isWord_60 : decode cX6_isWord 60 = .ok (.invokevirtual 172, 3) := by decide +kernel
theorem dX6_isWord_63 : decode cX6_isWord 63 = .ok (.ifCond .eq 49, 3) := by decide +kernel
theorem dX6_isWord_66 : decode cX6_isWord 66 = .ok (.aload_n 0, 1) := by decide +kernel
theorem dX6_isWord_67 : decode cX6_isWord 67 = .ok (.iconst 4, 1) := by decide +kernel
theorem dX6_isWord_68 : decode cX6_isWord 68 = .ok (.iload 5, 2) := by decide +kernel
theorem dX6_isWord_70 : decode cX6_isWord 70 = .ok (.invokevirtual 172, 3) := by decide +kernel
theorem dX6_isWord_73 : decode cX6_isWord 73 = .ok (.ifCond .eq 39, 3) := by decide +kernel
theorem dX6_isWord_76 : decode cX6_isWord 76 = .ok (.aload_n 0, 1) := by decide +kernel
theorem dX6_isWord_77 : decode cX6_isWord 77 = .ok (.iconst 5, 1) := by decide +kernel
theorem dX6_isWord_78 : decode cX6_isWord 78 = .ok (.iload 6, 2) := by decide +kernel
theorem dX6_isWord_80 : decode cX6_isWord 80 = .ok (.invokevirtual 172, 3) := by decide +kernel
theorem dX6_isWord_83 : decode cX6_isWord 83 = .ok (.ifCond .eq 29, 3) := by decide +kernel
theorem dX6_isWord_86 : decode cX6_isWord 86 = .ok (.aload_n 0, 1) := by decide +kernel
theorem dX6_isWord_87 : decode cX6_isWord 87 = .ok (.bipush 6, 2) := by decide +kernel
theorem dX6_isWord_89 : decode cX6_isWord 89 = .ok (.iload 7, 2) := by decide +kernel
theorem dX6_isWord_91 : decode cX6_isWord 91 = .ok (.invokevirtual 172, 3) := by decide +kernel
theorem dX6_isWord_94 : decode cX6_isWord 94 = .ok (.ifCond .eq 18, 3) := by decide +kernel
theorem dX6_isWord_97 : decode cX6_isWord 97 = .ok (.aload_n 0, 1) := by decide +kernel
theorem dX6_isWord_98 : decode cX6_isWord 98 = .ok (.bipush 7, 2) := by decide +kernel
theorem dX6_isWord_100 : decode cX6_isWord 100 = .ok (.iload 8, 2) := by decide +kernel
theorem dX6_isWord_102 : decode cX6_isWord 102 = .ok (.invokevirtual 172, 3) := by decide +kernel
theorem dX6_isWord_105 : decode cX6_isWord 105 = .ok (.ifCond .eq 7, 3) := by decide +kernel
theorem dX6_isWord_108 : decode cX6_isWord 108 = .ok (.iconst 1, 1) := by decide +kernel
theorem dX6_isWord_109 : decode cX6_isWord 109 = .ok (.goto 4, 3) := by decide +kernel
theorem dX6_isWord_112 : decode cX6_isWord 112 = .ok (.iconst 0, 1) := by decide +kernel
theorem dX6_isWord_113 : decode cX6_isWord 113 = .ok (.ireturn, 1) := by decide +kernel
theorem dX6_isSign_0 : decode cX6_isSign 0 = .ok (.aload_n 0, 1) := by decide +kernel
theorem dX6_isSign_1 : decode cX6_isSign 1 = .ok (.getfield 165, 3) := by decide +kernel
theorem dX6_isSign_4 : decode cX6_isSign 4 = .ok (.ifCond .ne 25, 3) := by decide +kernel
theorem dX6_isSign_7 : decode cX6_isSign 7 = .ok (.aload_n 0, 1) := by decide +kernel
theorem dX6_isSign_8 : decode cX6_isSign 8 = .ok (.getfield 148, 3) := by decide +kernel
theorem dX6_isSign_11 : decode cX6_isSign 11 = .ok (.iconst 3, 1) := by decide +kernel
theorem dX6_isSign_12 : decode cX6_isSign 12 = .ok (.if_icmp .ne 17, 3) := by decide +kernel
theorem dX6_isSign_15 : decode cX6_isSign 15 = .ok (.aload_n 0, 1) := by decide +kernel
theorem dX6_isSign_16 : decode cX6_isSign 16 = .ok (.getfield 159, 3) := by decide +kernel
theorem dX6_isSign_19 : decode cX6_isSign 19 = .ok (.iload_n 1, 1) := by decide +kernel
theorem dX6_isSign_20 : decode cX6_isSign 20 = .ok (.i2l, 1) := by decide +kernel
theorem dX6_isSign_21 : decode cX6_isSign 21 = .ok (.lcmp, 1) := by decide +kernel
theorem dX6_isSign_22 : decode cX6_isSign 22 = .ok (.ifCond .ne 7, 3) := by decide +kernel
theorem dX6_isSign_25 : decode cX6_isSign 25 = .ok (.iconst 1, 1) := by decide +kernel
theorem dX6_isSign_26 : decode cX6_isSign 26 = .ok (.goto 4, 3) := by decide +kernel
theorem dX6_isSign_29 : decode cX6_isSign 29 = .ok (.iconst 0, 1) := by decide +kernel
theorem dX6_isSign_30 : decode cX6_isSign 30 = .ok (.ireturn, 1) := by decide +kernel
theorem dX6_textOpens_0 : decode cX6_textOpens 0 = .ok (.aload_n 0, 1) := by decide +kernel
theorem dX6_textOpens_1 : decode cX6_textOpens 1 = .ok (.getfield 175, 3) := by decide +kernel
theorem dX6_textOpens_4 : decode cX6_textOpens 4 = .ok (.iconst 5, 1) := by decide +kernel
theorem dX6_textOpens_5 : decode cX6_textOpens 5 = .ok (.if_icmp .ne 9, 3) := by decide +kernel
theorem dX6_textOpens_8 : decode cX6_textOpens 8 = .ok (.aload_n 0, 1) := by decide +kernel
theorem dX6_textOpens_9 : decode cX6_textOpens 9 = .ok (.invokevirtual 178, 3) := by decide +kernel
theorem dX6_textOpens_12 : decode cX6_textOpens 12 = .ok (.iconst 0, 1) := by decide +kernel
theorem dX6_textOpens_13 : decode cX6_textOpens 13 = .ok (.ireturn, 1) := by decide +kernel
theorem dX6_textOpens_14 : decode cX6_textOpens 14 = .ok (.aload_n 0, 1) := by decide +kernel
theorem dX6_textOpens_15 : decode cX6_textOpens 15 = .ok (.dup, 1) := by decide +kernel
theorem dX6_textOpens_16 : decode cX6_textOpens 16 = .ok (.getfield 175, 3) := by decide +kernel
theorem dX6_textOpens_19 : decode cX6_textOpens 19 = .ok (.iconst 1, 1) := by decide +kernel
theorem dX6_textOpens_20 : decode cX6_textOpens 20 = .ok (.iadd, 1) := by decide +kernel
theorem dX6_textOpens_21 : decode cX6_textOpens 21 = .ok (.putfield 175, 3) := by decide +kernel
theorem dX6_textOpens_24 : decode cX6_textOpens 24 = .ok (.aload_n 0, 1) := by decide +kernel
theorem dX6_textOpens_25 : decode cX6_textOpens 25 = .ok (.invokevirtual 181, 3) := by decide +kernel
theorem dX6_textOpens_28 : decode cX6_textOpens 28 = .ok (.iconst 1, 1) := by decide +kernel
theorem dX6_textOpens_29 : decode cX6_textOpens 29 = .ok (.ireturn, 1) := by decide +kernel
theorem dX6_name_0 : decode cX6_name 0 = .ok (.aload_n 0, 1) := by decide +kernel
theorem dX6_name_1 : decode cX6_name 1 = .ok (.bipush 115, 2) := by decide +kernel
theorem dX6_name_3 : decode cX6_name 3 = .ok (.bipush 116, 2) := by decide +kernel
theorem dX6_name_5 : decode cX6_name 5 = .ok (.bipush 114, 2) := by decide +kernel
theorem dX6_name_7 : decode cX6_name 7 = .ok (.bipush 101, 2) := by decide +kernel
theorem dX6_name_9 : decode cX6_name 9 = .ok (.bipush 110, 2) := by decide +kernel
theorem dX6_name_11 : decode cX6_name 11 = .ok (.bipush 103, 2) := by decide +kernel
theorem dX6_name_13 : decode cX6_name 13 = .ok (.bipush 116, 2) := by decide +kernel
theorem dX6_name_15 : decode cX6_name 15 = .ok (.bipush 104, 2) := by decide +kernel
theorem dX6_name_17 : decode cX6_name 17 = .ok (.invokevirtual 184, 3) := by decide +kernel
theorem dX6_name_20 : decode cX6_name 20 = .ok (.ifCond .eq 8, 3) := by decide +kernel
theorem dX6_name_23 : decode cX6_name 23 = .ok (.aload_n 0, 1) := by decide +kernel
theorem dX6_name_24 : decode cX6_name 24 = .ok (.getfield 188, 3) := by decide +kernel
theorem dX6_name_27 : decode cX6_name 27 = .ok (.ireturn, 1) := by decide +kernel
theorem dX6_name_28 : decode cX6_name 28 = .ok (.aload_n 0, 1) := by decide +kernel
theorem dX6_name_29 : decode cX6_name 29 = .ok (.bipush 110, 2) := by decide +kernel
theorem dX6_name_31 : decode cX6_name 31 = .ok (.bipush 101, 2) := by decide +kernel
theorem dX6_name_33 : decode cX6_name 33 = .ok (.bipush 120, 2) := by decide +kernel
theorem dX6_name_35 : decode cX6_name 35 = .ok (.bipush 116, 2) := by decide +kernel
theorem dX6_name_37 : decode cX6_name 37 = .ok (.iconst 0, 1) := by decide +kernel
theorem dX6_name_38 : decode cX6_name 38 = .ok (.iconst 0, 1) := by decide +kernel
theorem dX6_name_39 : decode cX6_name 39 = .ok (.iconst 0, 1) := by decide +kernel
theorem dX6_name_40 : decode cX6_name 40 = .ok (.iconst 0, 1) := by decide +kernel
theorem dX6_name_41 : decode cX6_name 41 = .ok (.invokevirtual 184, 3) := by decide +kernel
theorem dX6_name_44 : decode cX6_name 44 = .ok (.ifCond .eq 8, 3) := by decide +kernel
theorem dX6_name_47 : decode cX6_name 47 = .ok (.aload_n 0, 1) := by decide +kernel
theorem dX6_name_48 : decode cX6_name 48 = .ok (.getfield 191, 3) := by decide +kernel
theorem dX6_name_51 : decode cX6_name 51 = .ok (.ireturn, 1) := by decide +kernel
theorem dX6_name_52 : decode cX6_name 52 = .ok (.aload_n 0, 1) := by decide +kernel
theorem dX6_name_53 : decode cX6_name 53 = .ok (.bipush 110, 2) := by decide +kernel
theorem dX6_name_55 : decode cX6_name 55 = .ok (.bipush 117, 2) := by decide +kernel
theorem dX6_name_57 : decode cX6_name 57 = .ok (.bipush 109, 2) := by decide +kernel
theorem dX6_name_59 : decode cX6_name 59 = .ok (.bipush 98, 2) := by decide +kernel
theorem dX6_name_61 : decode cX6_name 61 = .ok (.bipush 101, 2) := by decide +kernel
theorem dX6_name_63 : decode cX6_name 63 = .ok (.bipush 114, 2) := by decide +kernel
theorem dX6_name_65 : decode cX6_name 65 = .ok (.iconst 0, 1) := by decide +kernel
theorem dX6_name_66 : decode cX6_name 66 = .ok (.iconst 0, 1) := by decide +kernel
theorem dX6_name_67 : decode cX6_name 67 = .ok (.invokevirtual 184, 3) := by decide +kernel
theorem dX6_name_70 : decode cX6_name 70 = .ok (.ifCond .eq 8, 3) := by decide +kernel
theorem dX6_name_73 : decode cX6_name 73 = .ok (.aload_n 0, 1) := by decide +kernel
theorem dX6_name_74 : decode cX6_name 74 = .ok (.getfield 194, 3) := by decide +kernel
theorem dX6_name_77 : decode cX6_name 77 = .ok (.ireturn, 1) := by decide +kernel
theorem dX6_name_78 : decode cX6_name 78 = .ok (.aload_n 0, 1) := by decide +kernel
theorem dX6_name_79 : decode cX6_name 79 = .ok (.bipush 104, 2) := by decide +kernel
theorem dX6_name_81 : decode cX6_name 81 = .ok (.bipush 111, 2) := by decide +kernel
theorem dX6_name_83 : decode cX6_name 83 = .ok (.bipush 117, 2) := by decide +kernel
theorem dX6_name_85 : decode cX6_name 85 = .ok (.bipush 114, 2) := by decide +kernel
theorem dX6_name_87 : decode cX6_name 87 = .ok (.iconst 0, 1) := by decide +kernel
theorem dX6_name_88 : decode cX6_name 88 = .ok (.iconst 0, 1) := by decide +kernel
theorem dX6_name_89 : decode cX6_name 89 = .ok (.iconst 0, 1) := by decide +kernel
theorem dX6_name_90 : decode cX6_name 90 = .ok (.iconst 0, 1) := by decide +kernel
theorem dX6_name_91 : decode cX6_name 91 = .ok (.invokevirtual 184, 3) := by decide +kernel
theorem dX6_name_94 : decode cX6_name 94 = .ok (.ifCond .eq 8, 3) := by decide +kernel
theorem dX6_name_97 : decode cX6_name 97 = .ok (.aload_n 0, 1) := by decide +kernel
theorem dX6_name_98 : decode cX6_name 98 = .ok (.getfield 197, 3) := by decide +kernel
theorem dX6_name_101 : decode cX6_name 101 = .ok (.ireturn, 1) := by decide +kernel
theorem dX6_name_102 : decode cX6_name 102 = .ok (.aload_n 0, 1) := by decide +kernel
theorem dX6_name_103 : decode cX6_name 103 = .ok (.bipush 99, 2) := by decide +kernel
theorem dX6_name_105 : decode cX6_name 105 = .ok (.bipush 111, 2) := by decide +kernel
theorem dX6_name_107 : decode cX6_name 107 = .ok (.bipush 108, 2) := by decide +kernel
theorem dX6_name_109 : decode cX6_name 109 = .ok (.bipush 100, 2) := by decide +kernel
theorem dX6_name_111 : decode cX6_name 111 = .ok (.iconst 0, 1) := by decide +kernel
theorem dX6_name_112 : decode cX6_name 112 = .ok (.iconst 0, 1) := by decide +kernel
theorem dX6_name_113 : decode cX6_name 113 = .ok (.iconst 0, 1) := by decide +kernel
theorem dX6_name_114 : decode cX6_name 114 = .ok (.iconst 0, 1) := by decide +kernel
theorem dX6_name_115 : decode cX6_name 115 = .ok (.invokevirtual 184, 3) := by decide +kernel
theorem dX6_name_118 : decode cX6_name 118 = .ok (.ifCond .eq 8, 3) := by decide +kernel
theorem dX6_name_121 : decode cX6_name 121 = .ok (.aload_n 0, 1) := by decide +kernel
theorem dX6_name_122 : decode cX6_name 122 = .ok (.getfield 200, 3) := by decide +kernel
theorem dX6_name_125 : decode cX6_name 125 = .ok (.ireturn, 1) := by decide +kernel
theorem dX6_name_126 : decode cX6_name 126 = .ok (.aload_n 0, 1) := by decide +kernel
theorem dX6_name_127 : decode cX6_name 127 = .ok (.bipush 109, 2) := by decide +kernel
theorem dX6_name_129 : decode cX6_name 129 = .ok (.bipush 97, 2) := by decide +kernel
theorem dX6_name_131 : decode cX6_name 131 = .ok (.bipush 110, 2) := by decide +kernel
theorem dX6_name_133 : decode cX6_name 133 = .ok (.bipush 121, 2) := by decide +kernel
theorem dX6_name_135 : decode cX6_name 135 = .ok (.iconst 0, 1) := by decide +kernel
theorem dX6_name_136 : decode cX6_name 136 = .ok (.iconst 0, 1) := by decide +kernel
theorem dX6_name_137 : decode cX6_name 137 = .ok (.iconst 0, 1) := by decide +kernel
theorem dX6_name_138 : decode cX6_name 138 = .ok (.iconst 0, 1) := by decide +kernel
theorem dX6_name_139 : decode cX6_name 139 = .ok (.invokevirtual 184, 3) := by decide +kernel
theorem dX6_name_142 : decode cX6_name 142 = .ok (.ifCond .eq 8, 3) := by decide +kernel
theorem dX6_name_145 : decode cX6_name 145 = .ok (.aload_n 0, 1) := by decide +kernel
theorem dX6_name_146 : decode cX6_name 146 = .ok (.getfield 203, 3) := by decide +kernel
theorem dX6_name_149 : decode cX6_name 149 = .ok (.ireturn, 1) := by decide +kernel
theorem dX6_name_150 : decode cX6_name 150 = .ok (.aload_n 0, 1) := by decide +kernel
theorem dX6_name_151 : decode cX6_name 151 = .ok (.invokevirtual 178, 3) := by decide +kernel
theorem dX6_name_154 : decode cX6_name 154 = .ok (.iconst 0, 1) := by decide +kernel
theorem dX6_name_155 : decode cX6_name 155 = .ok (.ireturn, 1) := by decide +kernel
theorem dX6_atom_0 : decode cX6_atom 0 = .ok (.iconst 0, 1) := by decide +kernel
theorem dX6_atom_1 : decode cX6_atom 1 = .ok (.istore_n 1, 1) := by decide +kernel
theorem dX6_atom_2 : decode cX6_atom 2 = .ok (.aload_n 0, 1) := by decide +kernel
theorem dX6_atom_3 : decode cX6_atom 3 = .ok (.bipush 45, 2) := by decide +kernel
theorem dX6_atom_5 : decode cX6_atom 5 = .ok (.invokevirtual 206, 3) := by decide +kernel
theorem dX6_atom_8 : decode cX6_atom 8 = .ok (.ifCond .eq 29, 3) := by decide +kernel
theorem dX6_atom_11 : decode cX6_atom 11 = .ok (.aload_n 0, 1) := by decide +kernel
theorem dX6_atom_12 : decode cX6_atom 12 = .ok (.invokevirtual 209, 3) := by decide +kernel
theorem dX6_atom_15 : decode cX6_atom 15 = .ok (.ifCond .eq 146, 3) := by decide +kernel
theorem dX6_atom_18 : decode cX6_atom 18 = .ok (.aload_n 0, 1) := by decide +kernel
theorem dX6_atom_19 : decode cX6_atom 19 = .ok (.invokevirtual 213, 3) := by decide +kernel
theorem dX6_atom_22 : decode cX6_atom 22 = .ok (.ineg, 1) := by decide +kernel
theorem dX6_atom_23 : decode cX6_atom 23 = .ok (.istore_n 1, 1) := by decide +kernel
theorem dX6_atom_24 : decode cX6_atom 24 = .ok (.aload_n 0, 1) := by decide +kernel
theorem dX6_atom_25 : decode cX6_atom 25 = .ok (.dup, 1) := by decide +kernel
theorem dX6_atom_26 : decode cX6_atom 26 = .ok (.getfield 175, 3) := by decide +kernel
theorem dX6_atom_29 : decode cX6_atom 29 = .ok (.iconst 1, 1) := by decide +kernel
theorem dX6_atom_30 : decode cX6_atom 30 = .ok (.isub, 1) := by decide +kernel
theorem dX6_atom_31 : decode cX6_atom 31 = .ok (.putfield 175, 3) := by decide +kernel
theorem dX6_atom_34 : decode cX6_atom 34 = .ok (.goto 127, 3) := by decide +kernel
theorem dX6_atom_37 : decode cX6_atom 37 = .ok (.aload_n 0, 1) := by decide +kernel
theorem dX6_atom_38 : decode cX6_atom 38 = .ok (.bipush 40, 2) := by decide +kernel
theorem dX6_atom_40 : decode cX6_atom 40 = .ok (.invokevirtual 206, 3) := by decide +kernel
theorem dX6_atom_43 : decode cX6_atom 43 = .ok (.ifCond .eq 52, 3) := by decide +kernel
theorem dX6_atom_46 : decode cX6_atom 46 = .ok (.aload_n 0, 1) := by decide +kernel
theorem dX6_atom_47 : decode cX6_atom 47 = .ok (.invokevirtual 209, 3) := by decide +kernel
theorem dX6_atom_50 : decode cX6_atom 50 = .ok (.ifCond .eq 111, 3) := by decide +kernel
theorem dX6_atom_53 : decode cX6_atom 53 = .ok (.aload_n 0, 1) := by decide +kernel
theorem dX6_atom_54 : decode cX6_atom 54 = .ok (.invokevirtual 217, 3) := by decide +kernel
theorem dX6_atom_57 : decode cX6_atom 57 = .ok (.istore_n 1, 1) := by decide +kernel
theorem dX6_atom_58 : decode cX6_atom 58 = .ok (.aload_n 0, 1) := by decide +kernel
theorem dX6_atom_59 : decode cX6_atom 59 = .ok (.bipush 41, 2) := by decide +kernel
theorem dX6_atom_61 : decode cX6_atom 61 = .ok (.invokevirtual 206, 3) := by decide +kernel
theorem dX6_atom_64 : decode cX6_atom 64 = .ok (.ifCond .ne 7, 3) := by decide +kernel
theorem dX6_atom_67 : decode cX6_atom 67 = .ok (.aload_n 0, 1) := by decide +kernel
theorem dX6_atom_68 : decode cX6_atom 68 = .ok (.invokevirtual 178, 3) := by decide +kernel
theorem dX6_atom_71 : decode cX6_atom 71 = .ok (.aload_n 0, 1) := by decide +kernel
theorem dX6_atom_72 : decode cX6_atom 72 = .ok (.dup, 1) := by decide +kernel
theorem dX6_atom_73 : decode cX6_atom 73 = .ok (.getfield 175, 3) := by decide +kernel
theorem dX6_atom_76 : decode cX6_atom 76 = .ok (.iconst 1, 1) := by decide +kernel
theorem dX6_atom_77 : decode cX6_atom 77 = .ok (.isub, 1) := by decide +kernel
theorem dX6_atom_78 : decode cX6_atom 78 = .ok (.putfield 175, 3) := by decide +kernel
theorem dX6_atom_81 : decode cX6_atom 81 = .ok (.aload_n 0, 1) := by decide +kernel
theorem dX6_atom_82 : decode cX6_atom 82 = .ok (.getfield 165, 3) := by decide +kernel
theorem dX6_atom_85 : decode cX6_atom 85 = .ok (.ifCond .ne 76, 3) := by decide +kernel
theorem dX6_atom_88 : decode cX6_atom 88 = .ok (.aload_n 0, 1) := by decide +kernel
theorem dX6_atom_89 : decode cX6_atom 89 = .ok (.invokevirtual 181, 3) := by decide +kernel
theorem dX6_atom_92 : decode cX6_atom 92 = .ok (.goto 69, 3) := by decide +kernel
theorem dX6_atom_95 : decode cX6_atom 95 = .ok (.aload_n 0, 1) := by decide +kernel
theorem dX6_atom_96 : decode cX6_atom 96 = .ok (.getfield 165, 3) := by decide +kernel
theorem dX6_atom_99 : decode cX6_atom 99 = .ok (.ifCond .ne 24, 3) := by decide +kernel
theorem dX6_atom_102 : decode cX6_atom 102 = .ok (.aload_n 0, 1) := by decide +kernel
theorem dX6_atom_103 : decode cX6_atom 103 = .ok (.getfield 148, 3) := by decide +kernel
theorem dX6_atom_106 : decode cX6_atom 106 = .ok (.iconst 2, 1) := by decide +kernel
theorem dX6_atom_107 : decode cX6_atom 107 = .ok (.if_icmp .ne 16, 3) := by decide +kernel
theorem dX6_atom_110 : decode cX6_atom 110 = .ok (.aload_n 0, 1) := by decide +kernel
theorem dX6_atom_111 : decode cX6_atom 111 = .ok (.getfield 159, 3) := by decide +kernel
theorem dX6_atom_114 : decode cX6_atom 114 = .ok (.l2i, 1) := by decide +kernel
theorem dX6_atom_115 : decode cX6_atom 115 = .ok (.istore_n 1, 1) := by decide +kernel
theorem dX6_atom_116 : decode cX6_atom 116 = .ok (.aload_n 0, 1) := by decide +kernel
theorem dX6_atom_117 : decode cX6_atom 117 = .ok (.invokevirtual 181, 3) := by decide +kernel
theorem dX6_atom_120 : decode cX6_atom 120 = .ok (.goto 41, 3) := by decide +kernel
theorem dX6_atom_123 : decode cX6_atom 123 = .ok (.aload_n 0, 1) := by decide +kernel
theorem dX6_atom_124 : decode cX6_atom 124 = .ok (.getfield 165, 3) := by decide +kernel
theorem dX6_atom_127 : decode cX6_atom 127 = .ok (.ifCond .ne 30, 3) := by decide +kernel
theorem dX6_atom_130 : decode cX6_atom 130 = .ok (.aload_n 0, 1) := by decide +kernel
theorem dX6_atom_131 : decode cX6_atom 131 = .ok (.getfield 148, 3) := by decide +kernel
theorem dX6_atom_134 : decode cX6_atom 134 = .ok (.iconst 1, 1) := by decide +kernel
theorem dX6_atom_135 : decode cX6_atom 135 = .ok (.if_icmp .ne 22, 3) := by decide +kernel
theorem dX6_atom_138 : decode cX6_atom 138 = .ok (.aload_n 0, 1) := by decide +kernel
theorem dX6_atom_139 : decode cX6_atom 139 = .ok (.invokevirtual 220, 3) := by decide +kernel
theorem dX6_atom_142 : decode cX6_atom 142 = .ok (.istore_n 1, 1) := by decide +kernel
theorem dX6_atom_143 : decode cX6_atom 143 = .ok (.aload_n 0, 1) := by decide +kernel
theorem dX6_atom_144 : decode cX6_atom 144 = .ok (.getfield 165, 3) := by decide +kernel
theorem dX6_atom_147 : decode cX6_atom 147 = .ok (.ifCond .ne 14, 3) := by decide +kernel
theorem dX6_atom_150 : decode cX6_atom 150 = .ok (.aload_n 0, 1) := by decide +kernel
theorem dX6_atom_151 : decode cX6_atom 151 = .ok (.invokevirtual 181, 3) := by decide +kernel
theorem dX6_atom_154 : decode cX6_atom 154 = .ok (.goto 7, 3) := by decide +kernel
theorem dX6_atom_157 : decode cX6_atom 157 = .ok (.aload_n 0, 1) := by decide +kernel
theorem dX6_atom_158 : decode cX6_atom 158 = .ok (.invokevirtual 178, 3) := by decide +kernel
theorem dX6_atom_161 : decode cX6_atom 161 = .ok (.iload_n 1, 1) := by decide +kernel
theorem dX6_atom_162 : decode cX6_atom 162 = .ok (.ireturn, 1) := by decide +kernel
theorem dX6_term_0 : decode cX6_term 0 = .ok (.aload_n 0, 1) := by decide +kernel
theorem dX6_term_1 : decode cX6_term 1 = .ok (.invokevirtual 213, 3) := by decide +kernel
theorem dX6_term_4 : decode cX6_term 4 = .ok (.istore_n 1, 1) := by decide +kernel
theorem dX6_term_5 : decode cX6_term 5 = .ok (.aload_n 0, 1) := by decide +kernel
theorem dX6_term_6 : decode cX6_term 6 = .ok (.bipush 42, 2) := by decide +kernel
theorem dX6_term_8 : decode cX6_term 8 = .ok (.invokevirtual 206, 3) := by decide +kernel
theorem dX6_term_11 : decode cX6_term 11 = .ok (.ifCond .eq 17, 3) := by decide +kernel
theorem dX6_term_14 : decode cX6_term 14 = .ok (.aload_n 0, 1) := by decide +kernel
theorem dX6_term_15 : decode cX6_term 15 = .ok (.invokevirtual 181, 3) := by decide +kernel
theorem dX6_term_18 : decode cX6_term 18 = .ok (.iload_n 1, 1) := by decide +kernel
theorem dX6_term_19 : decode cX6_term 19 = .ok (.aload_n 0, 1) := by decide +kernel
theorem dX6_term_20 : decode cX6_term 20 = .ok (.invokevirtual 213, 3) := by decide +kernel
theorem dX6_term_23 : decode cX6_term 23 = .ok (.imul, 1) := by decide +kernel
theorem dX6_term_24 : decode cX6_term 24 = .ok (.istore_n 1, 1) := by decide +kernel
theorem dX6_term_25 : decode cX6_term 25 = .ok (.goto (-20), 3) := by decide +kernel
theorem dX6_term_28 : decode cX6_term 28 = .ok (.iload_n 1, 1) := by decide +kernel
theorem dX6_term_29 : decode cX6_term 29 = .ok (.ireturn, 1) := by decide +kernel
theorem dX6_added_0 : decode cX6_added 0 = .ok (.aload_n 0, 1) := by decide +kernel
theorem dX6_added_1 : decode cX6_added 1 = .ok (.invokevirtual 223, 3) := by decide +kernel
theorem dX6_added_4 : decode cX6_added 4 = .ok (.istore_n 1, 1) := by decide +kernel
theorem dX6_added_5 : decode cX6_added 5 = .ok (.aload_n 0, 1) := by decide +kernel
theorem dX6_added_6 : decode cX6_added 6 = .ok (.bipush 43, 2) := by decide +kernel
theorem dX6_added_8 : decode cX6_added 8 = .ok (.invokevirtual 206, 3) := by decide +kernel
theorem dX6_added_11 : decode cX6_added 11 = .ok (.ifCond .ne 12, 3) := by decide +kernel
theorem dX6_added_14 : decode cX6_added 14 = .ok (.aload_n 0, 1) := by decide +kernel
theorem dX6_added_15 : decode cX6_added 15 = .ok (.bipush 45, 2) := by decide +kernel
theorem dX6_added_17 : decode cX6_added 17 = .ok (.invokevirtual 206, 3) := by decide +kernel
theorem dX6_added_20 : decode cX6_added 20 = .ok (.ifCond .eq 46, 3) := by decide +kernel
theorem dX6_added_23 : decode cX6_added 23 = .ok (.aload_n 0, 1) := by decide +kernel
theorem dX6_added_24 : decode cX6_added 24 = .ok (.getfield 159, 3) := by decide +kernel
theorem dX6_added_27 : decode cX6_added 27 = .ok (.ldc2_w 226, 3) := by decide +kernel
theorem dX6_added_30 : decode cX6_added 30 = .ok (.lcmp, 1) := by decide +kernel
theorem dX6_added_31 : decode cX6_added 31 = .ok (.ifCond .ne 7, 3) := by decide +kernel
theorem dX6_added_34 : decode cX6_added 34 = .ok (.iconst 1, 1) := by decide +kernel
theorem dX6_added_35 : decode cX6_added 35 = .ok (.goto 4, 3) := by decide +kernel
theorem dX6_added_38 : decode cX6_added 38 = .ok (.iconst 0, 1) := by decide +kernel
theorem dX6_added_39 : decode cX6_added 39 = .ok (.istore_n 2, 1) := by decide +kernel
theorem dX6_added_40 : decode cX6_added 40 = .ok (.aload_n 0, 1) := by decide +kernel
theorem dX6_added_41 : decode cX6_added 41 = .ok (.invokevirtual 181, 3) := by decide +kernel
theorem dX6_added_44 : decode cX6_added 44 = .ok (.aload_n 0, 1) := by decide +kernel
theorem dX6_added_45 : decode cX6_added 45 = .ok (.invokevirtual 223, 3) := by decide +kernel
theorem dX6_added_48 : decode cX6_added 48 = .ok (.istore_n 3, 1) := by decide +kernel
theorem dX6_added_49 : decode cX6_added 49 = .ok (.iload_n 2, 1) := by decide +kernel
theorem dX6_added_50 : decode cX6_added 50 = .ok (.ifCond .eq 9, 3) := by decide +kernel
theorem dX6_added_53 : decode cX6_added 53 = .ok (.iload_n 1, 1) := by decide +kernel
theorem dX6_added_54 : decode cX6_added 54 = .ok (.iload_n 3, 1) := by decide +kernel
theorem dX6_added_55 : decode cX6_added 55 = .ok (.iadd, 1) := by decide +kernel
theorem dX6_added_56 : decode cX6_added 56 = .ok (.goto 6, 3) := by decide +kernel
theorem dX6_added_59 : decode cX6_added 59 = .ok (.iload_n 1, 1) := by decide +kernel
theorem dX6_added_60 : decode cX6_added 60 = .ok (.iload_n 3, 1) := by decide +kernel
theorem dX6_added_61 : decode cX6_added 61 = .ok (.isub, 1) := by decide +kernel
theorem dX6_added_62 : decode cX6_added 62 = .ok (.istore_n 1, 1) := by decide +kernel
theorem dX6_added_63 : decode cX6_added 63 = .ok (.goto (-58), 3) := by decide +kernel
theorem dX6_added_66 : decode cX6_added 66 = .ok (.iload_n 1, 1) := by decide +kernel
theorem dX6_added_67 : decode cX6_added 67 = .ok (.ireturn, 1) := by decide +kernel
theorem dX6_not_0 : decode cX6_not 0 = .ok (.aload_n 0, 1) := by decide +kernel
theorem dX6_not_1 : decode cX6_not 1 = .ok (.bipush 110, 2) := by decide +kernel
theorem dX6_not_3 : decode cX6_not 3 = .ok (.bipush 111, 2) := by decide +kernel
theorem dX6_not_5 : decode cX6_not 5 = .ok (.bipush 116, 2) := by decide +kernel
theorem dX6_not_7 : decode cX6_not 7 = .ok (.iconst 0, 1) := by decide +kernel
theorem dX6_not_8 : decode cX6_not 8 = .ok (.iconst 0, 1) := by decide +kernel
theorem dX6_not_9 : decode cX6_not 9 = .ok (.iconst 0, 1) := by decide +kernel
theorem dX6_not_10 : decode cX6_not 10 = .ok (.iconst 0, 1) := by decide +kernel
theorem dX6_not_11 : decode cX6_not 11 = .ok (.iconst 0, 1) := by decide +kernel
theorem dX6_not_12 : decode cX6_not 12 = .ok (.invokevirtual 184, 3) := by decide +kernel
theorem dX6_not_15 : decode cX6_not 15 = .ok (.ifCond .eq 37, 3) := by decide +kernel
theorem dX6_not_18 : decode cX6_not 18 = .ok (.aload_n 0, 1) := by decide +kernel
theorem dX6_not_19 : decode cX6_not 19 = .ok (.invokevirtual 209, 3) := by decide +kernel
theorem dX6_not_22 : decode cX6_not 22 = .ok (.ifCond .ne 5, 3) := by decide +kernel
theorem dX6_not_25 : decode cX6_not 25 = .ok (.iconst 0, 1) := by decide +kernel
theorem dX6_not_26 : decode cX6_not 26 = .ok (.ireturn, 1) := by decide +kernel
theorem dX6_not_27 : decode cX6_not 27 = .ok (.aload_n 0, 1) := by decide +kernel
theorem dX6_not_28 : decode cX6_not 28 = .ok (.invokevirtual 228, 3) := by decide +kernel
theorem dX6_not_31 : decode cX6_not 31 = .ok (.istore_n 1, 1) := by decide +kernel
theorem dX6_not_32 : decode cX6_not 32 = .ok (.aload_n 0, 1) := by decide +kernel
theorem dX6_not_33 : decode cX6_not 33 = .ok (.dup, 1) := by decide +kernel
theorem dX6_not_34 : decode cX6_not 34 = .ok (.getfield 175, 3) := by decide +kernel
theorem dX6_not_37 : decode cX6_not 37 = .ok (.iconst 1, 1) := by decide +kernel
theorem dX6_not_38 : decode cX6_not 38 = .ok (.isub, 1) := by decide +kernel
theorem dX6_not_39 : decode cX6_not 39 = .ok (.putfield 175, 3) := by decide +kernel
theorem dX6_not_42 : decode cX6_not 42 = .ok (.iload_n 1, 1) := by decide +kernel
theorem dX6_not_43 : decode cX6_not 43 = .ok (.ifCond .ne 7, 3) := by decide +kernel
theorem dX6_not_46 : decode cX6_not 46 = .ok (.iconst 1, 1) := by decide +kernel
theorem dX6_not_47 : decode cX6_not 47 = .ok (.goto 4, 3) := by decide +kernel
theorem dX6_not_50 : decode cX6_not 50 = .ok (.iconst 0, 1) := by decide +kernel
theorem dX6_not_51 : decode cX6_not 51 = .ok (.ireturn, 1) := by decide +kernel
theorem dX6_not_52 : decode cX6_not 52 = .ok (.aload_n 0, 1) := by decide +kernel
theorem dX6_not_53 : decode cX6_not 53 = .ok (.invokevirtual 231, 3) := by decide +kernel
theorem dX6_not_56 : decode cX6_not 56 = .ok (.istore_n 1, 1) := by decide +kernel
theorem dX6_not_57 : decode cX6_not 57 = .ok (.aload_n 0, 1) := by decide +kernel
theorem dX6_not_58 : decode cX6_not 58 = .ok (.bipush 60, 2) := by decide +kernel
theorem dX6_not_60 : decode cX6_not 60 = .ok (.invokevirtual 206, 3) := by decide +kernel
theorem dX6_not_63 : decode cX6_not 63 = .ok (.ifCond .ne 14, 3) := by decide +kernel
theorem dX6_not_66 : decode cX6_not 66 = .ok (.aload_n 0, 1) := by decide +kernel
theorem dX6_not_67 : decode cX6_not 67 = .ok (.bipush 61, 2) := by decide +kernel
theorem dX6_not_69 : decode cX6_not 69 = .ok (.invokevirtual 206, 3) := by decide +kernel
theorem dX6_not_72 : decode cX6_not 72 = .ok (.ifCond .ne 5, 3) := by decide +kernel
theorem dX6_not_75 : decode cX6_not 75 = .ok (.iload_n 1, 1) := by decide +kernel
theorem dX6_not_76 : decode cX6_not 76 = .ok (.ireturn, 1) := by decide +kernel
theorem dX6_not_77 : decode cX6_not 77 = .ok (.aload_n 0, 1) := by decide +kernel
theorem dX6_not_78 : decode cX6_not 78 = .ok (.getfield 159, 3) := by decide +kernel
theorem dX6_not_81 : decode cX6_not 81 = .ok (.ldc2_w 234, 3) := by decide +kernel
theorem dX6_not_84 : decode cX6_not 84 = .ok (.lcmp, 1) := by decide +kernel
theorem dX6_not_85 : decode cX6_not 85 = .ok (.ifCond .ne 7, 3) := by decide +kernel
theorem dX6_not_88 : decode cX6_not 88 = .ok (.iconst 1, 1) := by decide +kernel
theorem dX6_not_89 : decode cX6_not 89 = .ok (.goto 4, 3) := by decide +kernel
theorem dX6_not_92 : decode cX6_not 92 = .ok (.iconst 0, 1) := by decide +kernel
theorem dX6_not_93 : decode cX6_not 93 = .ok (.istore_n 2, 1) := by decide +kernel
theorem dX6_not_94 : decode cX6_not 94 = .ok (.aload_n 0, 1) := by decide +kernel
theorem dX6_not_95 : decode cX6_not 95 = .ok (.invokevirtual 181, 3) := by decide +kernel
theorem dX6_not_98 : decode cX6_not 98 = .ok (.aload_n 0, 1) := by decide +kernel
theorem dX6_not_99 : decode cX6_not 99 = .ok (.invokevirtual 231, 3) := by decide +kernel
theorem dX6_not_102 : decode cX6_not 102 = .ok (.istore_n 3, 1) := by decide +kernel
theorem dX6_not_103 : decode cX6_not 103 = .ok (.iload_n 2, 1) := by decide +kernel
theorem dX6_not_104 : decode cX6_not 104 = .ok (.ifCond .eq 11, 3) := by decide +kernel
theorem dX6_not_107 : decode cX6_not 107 = .ok (.iload_n 1, 1) := by decide +kernel
theorem dX6_not_108 : decode cX6_not 108 = .ok (.iload_n 3, 1) := by decide +kernel
theorem dX6_not_109 : decode cX6_not 109 = .ok (.if_icmp .ge 15, 3) := by decide +kernel
theorem dX6_not_112 : decode cX6_not 112 = .ok (.goto 8, 3) := by decide +kernel
theorem dX6_not_115 : decode cX6_not 115 = .ok (.iload_n 1, 1) := by decide +kernel
theorem dX6_not_116 : decode cX6_not 116 = .ok (.iload_n 3, 1) := by decide +kernel
theorem dX6_not_117 : decode cX6_not 117 = .ok (.if_icmp .ne 7, 3) := by decide +kernel
theorem dX6_not_120 : decode cX6_not 120 = .ok (.iconst 1, 1) := by decide +kernel
theorem dX6_not_121 : decode cX6_not 121 = .ok (.goto 4, 3) := by decide +kernel
theorem dX6_not_124 : decode cX6_not 124 = .ok (.iconst 0, 1) := by decide +kernel
theorem dX6_not_125 : decode cX6_not 125 = .ok (.ireturn, 1) := by decide +kernel
theorem dX6_both_0 : decode cX6_both 0 = .ok (.aload_n 0, 1) := by decide +kernel
theorem dX6_both_1 : decode cX6_both 1 = .ok (.invokevirtual 228, 3) := by decide +kernel
theorem dX6_both_4 : decode cX6_both 4 = .ok (.istore_n 1, 1) := by decide +kernel
theorem dX6_both_5 : decode cX6_both 5 = .ok (.aload_n 0, 1) := by decide +kernel
theorem dX6_both_6 : decode cX6_both 6 = .ok (.bipush 97, 2) := by decide +kernel
theorem dX6_both_8 : decode cX6_both 8 = .ok (.bipush 110, 2) := by decide +kernel
theorem dX6_both_10 : decode cX6_both 10 = .ok (.bipush 100, 2) := by decide +kernel
theorem dX6_both_12 : decode cX6_both 12 = .ok (.iconst 0, 1) := by decide +kernel
theorem dX6_both_13 : decode cX6_both 13 = .ok (.iconst 0, 1) := by decide +kernel
theorem dX6_both_14 : decode cX6_both 14 = .ok (.iconst 0, 1) := by decide +kernel
theorem dX6_both_15 : decode cX6_both 15 = .ok (.iconst 0, 1) := by decide +kernel
theorem dX6_both_16 : decode cX6_both 16 = .ok (.iconst 0, 1) := by decide +kernel
theorem dX6_both_17 : decode cX6_both 17 = .ok (.invokevirtual 184, 3) := by decide +kernel
theorem dX6_both_20 : decode cX6_both 20 = .ok (.ifCond .eq 29, 3) := by decide +kernel
theorem dX6_both_23 : decode cX6_both 23 = .ok (.aload_n 0, 1) := by decide +kernel
theorem dX6_both_24 : decode cX6_both 24 = .ok (.invokevirtual 181, 3) := by decide +kernel
theorem dX6_both_27 : decode cX6_both 27 = .ok (.aload_n 0, 1) := by decide +kernel
theorem dX6_both_28 : decode cX6_both 28 = .ok (.invokevirtual 228, 3) := by decide +kernel
theorem dX6_both_31 : decode cX6_both 31 = .ok (.istore_n 2, 1) := by decide +kernel
theorem dX6_both_32 : decode cX6_both 32 = .ok (.iload_n 1, 1) := by decide +kernel
theorem dX6_both_33 : decode cX6_both 33 = .ok (.ifCond .eq 11, 3) := by decide +kernel
theorem dX6_both_36 : decode cX6_both 36 = .ok (.iload_n 2, 1) := by decide +kernel
theorem dX6_both_37 : decode cX6_both 37 = .ok (.ifCond .eq 7, 3) := by decide +kernel
theorem dX6_both_40 : decode cX6_both 40 = .ok (.iconst 1, 1) := by decide +kernel
theorem dX6_both_41 : decode cX6_both 41 = .ok (.goto 4, 3) := by decide +kernel
theorem dX6_both_44 : decode cX6_both 44 = .ok (.iconst 0, 1) := by decide +kernel
theorem dX6_both_45 : decode cX6_both 45 = .ok (.istore_n 1, 1) := by decide +kernel
theorem dX6_both_46 : decode cX6_both 46 = .ok (.goto (-41), 3) := by decide +kernel
theorem dX6_both_49 : decode cX6_both 49 = .ok (.iload_n 1, 1) := by decide +kernel
theorem dX6_both_50 : decode cX6_both 50 = .ok (.ireturn, 1) := by decide +kernel
theorem dX6_either_0 : decode cX6_either 0 = .ok (.aload_n 0, 1) := by decide +kernel
theorem dX6_either_1 : decode cX6_either 1 = .ok (.invokevirtual 236, 3) := by decide +kernel
theorem dX6_either_4 : decode cX6_either 4 = .ok (.istore_n 1, 1) := by decide +kernel
theorem dX6_either_5 : decode cX6_either 5 = .ok (.aload_n 0, 1) := by decide +kernel
theorem dX6_either_6 : decode cX6_either 6 = .ok (.bipush 111, 2) := by decide +kernel
theorem dX6_either_8 : decode cX6_either 8 = .ok (.bipush 114, 2) := by decide +kernel
theorem dX6_either_10 : decode cX6_either 10 = .ok (.iconst 0, 1) := by decide +kernel
theorem dX6_either_11 : decode cX6_either 11 = .ok (.iconst 0, 1) := by decide +kernel
theorem dX6_either_12 : decode cX6_either 12 = .ok (.iconst 0, 1) := by decide +kernel
theorem dX6_either_13 : decode cX6_either 13 = .ok (.iconst 0, 1) := by decide +kernel
theorem dX6_either_14 : decode cX6_either 14 = .ok (.iconst 0, 1) := by decide +kernel
theorem dX6_either_15 : decode cX6_either 15 = .ok (.iconst 0, 1) := by decide +kernel
theorem dX6_either_16 : decode cX6_either 16 = .ok (.invokevirtual 184, 3) := by decide +kernel
theorem dX6_either_19 : decode cX6_either 19 = .ok (.ifCond .eq 29, 3) := by decide +kernel
theorem dX6_either_22 : decode cX6_either 22 = .ok (.aload_n 0, 1) := by decide +kernel
theorem dX6_either_23 : decode cX6_either 23 = .ok (.invokevirtual 181, 3) := by decide +kernel
theorem dX6_either_26 : decode cX6_either 26 = .ok (.aload_n 0, 1) := by decide +kernel
theorem dX6_either_27 : decode cX6_either 27 = .ok (.invokevirtual 236, 3) := by decide +kernel
theorem dX6_either_30 : decode cX6_either 30 = .ok (.istore_n 2, 1) := by decide +kernel
theorem dX6_either_31 : decode cX6_either 31 = .ok (.iload_n 1, 1) := by decide +kernel
theorem dX6_either_32 : decode cX6_either 32 = .ok (.ifCond .ne 7, 3) := by decide +kernel
theorem dX6_either_35 : decode cX6_either 35 = .ok (.iload_n 2, 1) := by decide +kernel
theorem dX6_either_36 : decode cX6_either 36 = .ok (.ifCond .eq 7, 3) := by decide +kernel
theorem dX6_either_39 : decode cX6_either 39 = .ok (.iconst 1, 1) := by decide +kernel
theorem dX6_either_40 : decode cX6_either 40 = .ok (.goto 4, 3) := by decide +kernel
theorem dX6_either_43 : decode cX6_either 43 = .ok (.iconst 0, 1) := by decide +kernel
theorem dX6_either_44 : decode cX6_either 44 = .ok (.istore_n 1, 1) := by decide +kernel
theorem dX6_either_45 : decode cX6_either 45 = .ok (.goto (-40), 3) := by decide +kernel
theorem dX6_either_48 : decode cX6_either 48 = .ok (.iload_n 1, 1) := by decide +kernel
theorem dX6_either_49 : decode cX6_either 49 = .ok (.ireturn, 1) := by decide +kernel
theorem dX6_part_0 : decode cX6_part 0 = .ok (.iload_n 1, 1) := by decide +kernel
theorem dX6_part_1 : decode cX6_part 1 = .ok (.ifCond .ne 7, 3) := by decide +kernel
theorem dX6_part_4 : decode cX6_part 4 = .ok (.aload_n 0, 1) := by decide +kernel
theorem dX6_part_5 : decode cX6_part 5 = .ok (.invokevirtual 178, 3) := by decide +kernel
theorem dX6_part_8 : decode cX6_part 8 = .ok (.aload_n 0, 1) := by decide +kernel
theorem dX6_part_9 : decode cX6_part 9 = .ok (.getfield 165, 3) := by decide +kernel
theorem dX6_part_12 : decode cX6_part 12 = .ok (.ifCond .ne 7, 3) := by decide +kernel
theorem dX6_part_15 : decode cX6_part 15 = .ok (.aload_n 0, 1) := by decide +kernel
theorem dX6_part_16 : decode cX6_part 16 = .ok (.invokevirtual 181, 3) := by decide +kernel
theorem dX6_part_19 : decode cX6_part 19 = .ok (.aload_n 0, 1) := by decide +kernel
theorem dX6_part_20 : decode cX6_part 20 = .ok (.getfield 165, 3) := by decide +kernel
theorem dX6_part_23 : decode cX6_part 23 = .ok (.ifCond .eq 7, 3) := by decide +kernel
theorem dX6_part_26 : decode cX6_part 26 = .ok (.iconst 0, 1) := by decide +kernel
theorem dX6_part_27 : decode cX6_part 27 = .ok (.goto 7, 3) := by decide +kernel
theorem dX6_part_30 : decode cX6_part 30 = .ok (.aload_n 0, 1) := by decide +kernel
theorem dX6_part_31 : decode cX6_part 31 = .ok (.invokevirtual 217, 3) := by decide +kernel
theorem dX6_part_34 : decode cX6_part 34 = .ok (.istore_n 2, 1) := by decide +kernel
theorem dX6_part_35 : decode cX6_part 35 = .ok (.aload_n 0, 1) := by decide +kernel
theorem dX6_part_36 : decode cX6_part 36 = .ok (.bipush 59, 2) := by decide +kernel
theorem dX6_part_38 : decode cX6_part 38 = .ok (.invokevirtual 206, 3) := by decide +kernel
theorem dX6_part_41 : decode cX6_part 41 = .ok (.ifCond .ne 7, 3) := by decide +kernel
theorem dX6_part_44 : decode cX6_part 44 = .ok (.aload_n 0, 1) := by decide +kernel
theorem dX6_part_45 : decode cX6_part 45 = .ok (.invokevirtual 178, 3) := by decide +kernel
theorem dX6_part_48 : decode cX6_part 48 = .ok (.aload_n 0, 1) := by decide +kernel
theorem dX6_part_49 : decode cX6_part 49 = .ok (.getfield 165, 3) := by decide +kernel
theorem dX6_part_52 : decode cX6_part 52 = .ok (.ifCond .ne 7, 3) := by decide +kernel
theorem dX6_part_55 : decode cX6_part 55 = .ok (.aload_n 0, 1) := by decide +kernel
theorem dX6_part_56 : decode cX6_part 56 = .ok (.invokevirtual 181, 3) := by decide +kernel
theorem dX6_part_59 : decode cX6_part 59 = .ok (.iload_n 2, 1) := by decide +kernel
theorem dX6_part_60 : decode cX6_part 60 = .ok (.ireturn, 1) := by decide +kernel
theorem dX6_read_0 : decode cX6_read 0 = .ok (.aload_n 0, 1) := by decide +kernel
theorem dX6_read_1 : decode cX6_read 1 = .ok (.sipush 160, 3) := by decide +kernel
theorem dX6_read_4 : decode cX6_read 4 = .ok (.iload_n 1, 1) := by decide +kernel
theorem dX6_read_5 : decode cX6_read 5 = .ok (.imul, 1) := by decide +kernel
theorem dX6_read_6 : decode cX6_read 6 = .ok (.putfield 136, 3) := by decide +kernel
theorem dX6_read_9 : decode cX6_read 9 = .ok (.aload_n 0, 1) := by decide +kernel
theorem dX6_read_10 : decode cX6_read 10 = .ok (.aload_n 0, 1) := by decide +kernel
theorem dX6_read_11 : decode cX6_read 11 = .ok (.getfield 17, 3) := by decide +kernel
theorem dX6_read_14 : decode cX6_read 14 = .ok (.iload_n 1, 1) := by decide +kernel
theorem dX6_read_15 : decode cX6_read 15 = .ok (.iaload, 1) := by decide +kernel
theorem dX6_read_16 : decode cX6_read 16 = .ok (.putfield 133, 3) := by decide +kernel
theorem dX6_read_19 : decode cX6_read 19 = .ok (.aload_n 0, 1) := by decide +kernel
theorem dX6_read_20 : decode cX6_read 20 = .ok (.iconst 0, 1) := by decide +kernel
theorem dX6_read_21 : decode cX6_read 21 = .ok (.putfield 139, 3) := by decide +kernel
theorem dX6_read_24 : decode cX6_read 24 = .ok (.aload_n 0, 1) := by decide +kernel
theorem dX6_read_25 : decode cX6_read 25 = .ok (.iconst 0, 1) := by decide +kernel
theorem dX6_read_26 : decode cX6_read 26 = .ok (.putfield 175, 3) := by decide +kernel
theorem dX6_read_29 : decode cX6_read 29 = .ok (.aload_n 0, 1) := by decide +kernel
theorem dX6_read_30 : decode cX6_read 30 = .ok (.iconst 0, 1) := by decide +kernel
theorem dX6_read_31 : decode cX6_read 31 = .ok (.putfield 165, 3) := by decide +kernel
theorem dX6_read_34 : decode cX6_read 34 = .ok (.aload_n 0, 1) := by decide +kernel
theorem dX6_read_35 : decode cX6_read 35 = .ok (.invokevirtual 181, 3) := by decide +kernel
theorem dX6_read_38 : decode cX6_read 38 = .ok (.aload_n 0, 1) := by decide +kernel
theorem dX6_read_39 : decode cX6_read 39 = .ok (.aload_n 0, 1) := by decide +kernel
theorem dX6_read_40 : decode cX6_read 40 = .ok (.bipush 103, 2) := by decide +kernel
theorem dX6_read_42 : decode cX6_read 42 = .ok (.bipush 114, 2) := by decide +kernel
theorem dX6_read_44 : decode cX6_read 44 = .ok (.bipush 105, 2) := by decide +kernel
theorem dX6_read_46 : decode cX6_read 46 = .ok (.bipush 112, 2) := by decide +kernel
theorem dX6_read_48 : decode cX6_read 48 = .ok (.bipush 115, 2) := by decide +kernel
theorem dX6_read_50 : decode cX6_read 50 = .ok (.iconst 0, 1) := by decide +kernel
theorem dX6_read_51 : decode cX6_read 51 = .ok (.iconst 0, 1) := by decide +kernel
theorem dX6_read_52 : decode cX6_read 52 = .ok (.iconst 0, 1) := by decide +kernel
theorem dX6_read_53 : decode cX6_read 53 = .ok (.invokevirtual 184, 3) := by decide +kernel
theorem dX6_read_56 : decode cX6_read 56 = .ok (.invokevirtual 239, 3) := by decide +kernel
theorem dX6_read_59 : decode cX6_read 59 = .ok (.istore_n 3, 1) := by decide +kernel
theorem dX6_read_60 : decode cX6_read 60 = .ok (.aload_n 0, 1) := by decide +kernel
theorem dX6_read_61 : decode cX6_read 61 = .ok (.getfield 165, 3) := by decide +kernel
theorem dX6_read_64 : decode cX6_read 64 = .ok (.ifCond .eq 7, 3) := by decide +kernel
theorem dX6_read_67 : decode cX6_read 67 = .ok (.iconst 0, 1) := by decide +kernel
theorem dX6_read_68 : decode cX6_read 68 = .ok (.goto 24, 3) := by decide +kernel
theorem dX6_read_71 : decode cX6_read 71 = .ok (.aload_n 0, 1) := by decide +kernel
theorem dX6_read_72 : decode cX6_read 72 = .ok (.aload_n 0, 1) := by decide +kernel
theorem dX6_read_73 : decode cX6_read 73 = .ok (.bipush 104, 2) := by decide +kernel
theorem dX6_read_75 : decode cX6_read 75 = .ok (.bipush 97, 2) := by decide +kernel
theorem dX6_read_77 : decode cX6_read 77 = .ok (.bipush 110, 2) := by decide +kernel
theorem dX6_read_79 : decode cX6_read 79 = .ok (.bipush 100, 2) := by decide +kernel
theorem dX6_read_81 : decode cX6_read 81 = .ok (.bipush 115, 2) := by decide +kernel
theorem dX6_read_83 : decode cX6_read 83 = .ok (.iconst 0, 1) := by decide +kernel
theorem dX6_read_84 : decode cX6_read 84 = .ok (.iconst 0, 1) := by decide +kernel
theorem dX6_read_85 : decode cX6_read 85 = .ok (.iconst 0, 1) := by decide +kernel
theorem dX6_read_86 : decode cX6_read 86 = .ok (.invokevirtual 184, 3) := by decide +kernel
theorem dX6_read_89 : decode cX6_read 89 = .ok (.invokevirtual 239, 3) := by decide +kernel
theorem dX6_read_92 : decode cX6_read 92 = .ok (.istore 4, 2) := by decide +kernel
end
section
theorem dX6_read_94 : decode cX6_read 94 = .ok (.aload_n 0, 1) := by decide +kernel
theorem dX6_read_95 : decode cX6_read 95 = .ok (.getfield 165, 3) := by decide +kernel
theorem dX6_read_98 : decode cX6_read 98 = .ok (.ifCond .eq 7, 3) := by decide +kernel
theorem dX6_read_101 : decode cX6_read 101 = .ok (.iconst 0, 1) := by decide +kernel
theorem dX6_read_102 : decode cX6_read 102 = .ok (.goto 24, 3) := by decide +kernel
theorem dX6_read_105 : decode cX6_read 105 = .ok (.aload_n 0, 1) := by decide +kernel
theorem dX6_read_106 : decode cX6_read 106 = .ok (.aload_n 0, 1) := by decide +kernel
theorem dX6_read_107 : decode cX6_read 107 = .ok (.bipush 116, 2) := by decide +kernel
theorem dX6_read_109 : decode cX6_read 109 = .ok (.bipush 105, 2) := by decide +kernel
theorem dX6_read_111 : decode cX6_read 111 = .ok (.bipush 114, 2) := by decide +kernel
theorem dX6_read_113 : decode cX6_read 113 = .ok (.bipush 101, 2) := by decide +kernel
theorem dX6_read_115 : decode cX6_read 115 = .ok (.bipush 115, 2) := by decide +kernel
theorem dX6_read_117 : decode cX6_read 117 = .ok (.iconst 0, 1) := by decide +kernel
theorem dX6_read_118 : decode cX6_read 118 = .ok (.iconst 0, 1) := by decide +kernel
theorem dX6_read_119 : decode cX6_read 119 = .ok (.iconst 0, 1) := by decide +kernel
theorem dX6_read_120 : decode cX6_read 120 = .ok (.invokevirtual 184, 3) := by decide +kernel
theorem dX6_read_123 : decode cX6_read 123 = .ok (.invokevirtual 239, 3) := by decide +kernel
theorem dX6_read_126 : decode cX6_read 126 = .ok (.istore 5, 2) := by decide +kernel
theorem dX6_read_128 : decode cX6_read 128 = .ok (.aload_n 0, 1) := by decide +kernel
theorem dX6_read_129 : decode cX6_read 129 = .ok (.getfield 165, 3) := by decide +kernel
theorem dX6_read_132 : decode cX6_read 132 = .ok (.ifCond .ne 14, 3) := by decide +kernel
theorem dX6_read_135 : decode cX6_read 135 = .ok (.aload_n 0, 1) := by decide +kernel
theorem dX6_read_136 : decode cX6_read 136 = .ok (.getfield 148, 3) := by decide +kernel
theorem dX6_read_139 : decode cX6_read 139 = .ok (.ifCond .eq 7, 3) := by decide +kernel
theorem dX6_read_142 : decode cX6_read 142 = .ok (.aload_n 0, 1) := by decide +kernel
theorem dX6_read_143 : decode cX6_read 143 = .ok (.invokevirtual 178, 3) := by decide +kernel
theorem dX6_read_146 : decode cX6_read 146 = .ok (.iload_n 2, 1) := by decide +kernel
theorem dX6_read_147 : decode cX6_read 147 = .ok (.ifCond .ne 7, 3) := by decide +kernel
theorem dX6_read_150 : decode cX6_read 150 = .ok (.iload_n 3, 1) := by decide +kernel
theorem dX6_read_151 : decode cX6_read 151 = .ok (.goto 15, 3) := by decide +kernel
theorem dX6_read_154 : decode cX6_read 154 = .ok (.iload_n 2, 1) := by decide +kernel
theorem dX6_read_155 : decode cX6_read 155 = .ok (.iconst 1, 1) := by decide +kernel
theorem dX6_read_156 : decode cX6_read 156 = .ok (.if_icmp .ne 8, 3) := by decide +kernel
theorem dX6_read_159 : decode cX6_read 159 = .ok (.iload 4, 2) := by decide +kernel
theorem dX6_read_161 : decode cX6_read 161 = .ok (.goto 5, 3) := by decide +kernel
theorem dX6_read_164 : decode cX6_read 164 = .ok (.iload 5, 2) := by decide +kernel
theorem dX6_read_166 : decode cX6_read 166 = .ok (.ireturn, 1) := by decide +kernel
theorem dX6_text_0 : decode cX6_text 0 = .ok (.aload_n 0, 1) := by decide +kernel
theorem dX6_text_1 : decode cX6_text 1 = .ok (.getfield 64, 3) := by decide +kernel
theorem dX6_text_4 : decode cX6_text 4 = .ok (.bipush 6, 2) := by decide +kernel
theorem dX6_text_6 : decode cX6_text 6 = .ok (.if_icmp .ne 6, 3) := by decide +kernel
theorem dX6_text_9 : decode cX6_text 9 = .ok (.bipush (-4), 2) := by decide +kernel
theorem dX6_text_11 : decode cX6_text 11 = .ok (.ireturn, 1) := by decide +kernel
theorem dX6_text_12 : decode cX6_text 12 = .ok (.iconst 0, 1) := by decide +kernel
theorem dX6_text_13 : decode cX6_text 13 = .ok (.istore_n 1, 1) := by decide +kernel
theorem dX6_text_14 : decode cX6_text 14 = .ok (.iload_n 1, 1) := by decide +kernel
theorem dX6_text_15 : decode cX6_text 15 = .ok (.aload_n 0, 1) := by decide +kernel
theorem dX6_text_16 : decode cX6_text 16 = .ok (.getfield 130, 3) := by decide +kernel
theorem dX6_text_19 : decode cX6_text 19 = .ok (.if_icmp .ge 30, 3) := by decide +kernel
theorem dX6_text_22 : decode cX6_text 22 = .ok (.aload_n 0, 1) := by decide +kernel
theorem dX6_text_23 : decode cX6_text 23 = .ok (.getfield 13, 3) := by decide +kernel
theorem dX6_text_26 : decode cX6_text 26 = .ok (.sipush 160, 3) := by decide +kernel
theorem dX6_text_29 : decode cX6_text 29 = .ok (.aload_n 0, 1) := by decide +kernel
theorem dX6_text_30 : decode cX6_text 30 = .ok (.getfield 64, 3) := by decide +kernel
theorem dX6_text_33 : decode cX6_text 33 = .ok (.imul, 1) := by decide +kernel
theorem dX6_text_34 : decode cX6_text 34 = .ok (.iload_n 1, 1) := by decide +kernel
theorem dX6_text_35 : decode cX6_text 35 = .ok (.iadd, 1) := by decide +kernel
theorem dX6_text_36 : decode cX6_text 36 = .ok (.aload_n 0, 1) := by decide +kernel
theorem dX6_text_37 : decode cX6_text 37 = .ok (.getfield 20, 3) := by decide +kernel
theorem dX6_text_40 : decode cX6_text 40 = .ok (.iload_n 1, 1) := by decide +kernel
theorem dX6_text_41 : decode cX6_text 41 = .ok (.iaload, 1) := by decide +kernel
theorem dX6_text_42 : decode cX6_text 42 = .ok (.iastore, 1) := by decide +kernel
theorem dX6_text_43 : decode cX6_text 43 = .ok (.iinc 1 1, 3) := by decide +kernel
theorem dX6_text_46 : decode cX6_text 46 = .ok (.goto (-32), 3) := by decide +kernel
theorem dX6_text_49 : decode cX6_text 49 = .ok (.aload_n 0, 1) := by decide +kernel
theorem dX6_text_50 : decode cX6_text 50 = .ok (.getfield 17, 3) := by decide +kernel
theorem dX6_text_53 : decode cX6_text 53 = .ok (.aload_n 0, 1) := by decide +kernel
theorem dX6_text_54 : decode cX6_text 54 = .ok (.getfield 64, 3) := by decide +kernel
theorem dX6_text_57 : decode cX6_text 57 = .ok (.aload_n 0, 1) := by decide +kernel
theorem dX6_text_58 : decode cX6_text 58 = .ok (.getfield 130, 3) := by decide +kernel
theorem dX6_text_61 : decode cX6_text 61 = .ok (.iastore, 1) := by decide +kernel
theorem dX6_text_62 : decode cX6_text 62 = .ok (.aload_n 0, 1) := by decide +kernel
theorem dX6_text_63 : decode cX6_text 63 = .ok (.iconst 0, 1) := by decide +kernel
theorem dX6_text_64 : decode cX6_text 64 = .ok (.putfield 130, 3) := by decide +kernel
theorem dX6_text_67 : decode cX6_text 67 = .ok (.aload_n 0, 1) := by decide +kernel
theorem dX6_text_68 : decode cX6_text 68 = .ok (.aload_n 0, 1) := by decide +kernel
theorem dX6_text_69 : decode cX6_text 69 = .ok (.getfield 64, 3) := by decide +kernel
theorem dX6_text_72 : decode cX6_text 72 = .ok (.iconst 0, 1) := by decide +kernel
theorem dX6_text_73 : decode cX6_text 73 = .ok (.invokevirtual 243, 3) := by decide +kernel
theorem dX6_text_76 : decode cX6_text 76 = .ok (.istore_n 1, 1) := by decide +kernel
theorem dX6_text_77 : decode cX6_text 77 = .ok (.aload_n 0, 1) := by decide +kernel
theorem dX6_text_78 : decode cX6_text 78 = .ok (.getfield 165, 3) := by decide +kernel
theorem dX6_text_81 : decode cX6_text 81 = .ok (.ifCond .eq 11, 3) := by decide +kernel
theorem dX6_text_84 : decode cX6_text 84 = .ok (.bipush (-100), 2) := by decide +kernel
theorem dX6_text_86 : decode cX6_text 86 = .ok (.aload_n 0, 1) := by decide +kernel
theorem dX6_text_87 : decode cX6_text 87 = .ok (.getfield 169, 3) := by decide +kernel
theorem dX6_text_90 : decode cX6_text 90 = .ok (.isub, 1) := by decide +kernel
theorem dX6_text_91 : decode cX6_text 91 = .ok (.ireturn, 1) := by decide +kernel
theorem dX6_text_92 : decode cX6_text 92 = .ok (.aload_n 0, 1) := by decide +kernel
theorem dX6_text_93 : decode cX6_text 93 = .ok (.dup, 1) := by decide +kernel
theorem dX6_text_94 : decode cX6_text 94 = .ok (.getfield 64, 3) := by decide +kernel
theorem dX6_text_97 : decode cX6_text 97 = .ok (.iconst 1, 1) := by decide +kernel
theorem dX6_text_98 : decode cX6_text 98 = .ok (.iadd, 1) := by decide +kernel
theorem dX6_text_99 : decode cX6_text 99 = .ok (.putfield 64, 3) := by decide +kernel
theorem dX6_text_102 : decode cX6_text 102 = .ok (.aload_n 0, 1) := by decide +kernel
theorem dX6_text_103 : decode cX6_text 103 = .ok (.getfield 64, 3) := by decide +kernel
theorem dX6_text_106 : decode cX6_text 106 = .ok (.iconst 1, 1) := by decide +kernel
theorem dX6_text_107 : decode cX6_text 107 = .ok (.isub, 1) := by decide +kernel
theorem dX6_text_108 : decode cX6_text 108 = .ok (.ireturn, 1) := by decide +kernel
theorem dX6_force_0 : decode cX6_force 0 = .ok (.iload_n 1, 1) := by decide +kernel
theorem dX6_force_1 : decode cX6_force 1 = .ok (.i2l, 1) := by decide +kernel
theorem dX6_force_2 : decode cX6_force 2 = .ok (.lconst 0, 1) := by decide +kernel
theorem dX6_force_3 : decode cX6_force 3 = .ok (.aload_n 0, 1) := by decide +kernel
theorem dX6_force_4 : decode cX6_force 4 = .ok (.getfield 64, 3) := by decide +kernel
theorem dX6_force_7 : decode cX6_force 7 = .ok (.iconst 1, 1) := by decide +kernel
theorem dX6_force_8 : decode cX6_force 8 = .ok (.isub, 1) := by decide +kernel
theorem dX6_force_9 : decode cX6_force 9 = .ok (.i2l, 1) := by decide +kernel
theorem dX6_force_10 : decode cX6_force 10 = .ok (.invokestatic 70, 3) := by decide +kernel
theorem dX6_force_13 : decode cX6_force 13 = .ok (.ifCond .ne 6, 3) := by decide +kernel
theorem dX6_force_16 : decode cX6_force 16 = .ok (.bipush (-2), 2) := by decide +kernel
theorem dX6_force_18 : decode cX6_force 18 = .ok (.ireturn, 1) := by decide +kernel
theorem dX6_force_19 : decode cX6_force 19 = .ok (.aload_n 0, 1) := by decide +kernel
theorem dX6_force_20 : decode cX6_force 20 = .ok (.getfield 108, 3) := by decide +kernel
theorem dX6_force_23 : decode cX6_force 23 = .ok (.istore_n 2, 1) := by decide +kernel
theorem dX6_force_24 : decode cX6_force 24 = .ok (.aload_n 0, 1) := by decide +kernel
theorem dX6_force_25 : decode cX6_force 25 = .ok (.iload_n 1, 1) := by decide +kernel
theorem dX6_force_26 : decode cX6_force 26 = .ok (.putfield 108, 3) := by decide +kernel
theorem dX6_force_29 : decode cX6_force 29 = .ok (.iload_n 2, 1) := by decide +kernel
theorem dX6_force_30 : decode cX6_force 30 = .ok (.ireturn, 1) := by decide +kernel
theorem dX6_says_0 : decode cX6_says 0 = .ok (.aload_n 0, 1) := by decide +kernel
theorem dX6_says_1 : decode cX6_says 1 = .ok (.aload_n 0, 1) := by decide +kernel
theorem dX6_says_2 : decode cX6_says 2 = .ok (.getfield 23, 3) := by decide +kernel
theorem dX6_says_5 : decode cX6_says 5 = .ok (.iconst 3, 1) := by decide +kernel
theorem dX6_says_6 : decode cX6_says 6 = .ok (.iload_n 2, 1) := by decide +kernel
theorem dX6_says_7 : decode cX6_says 7 = .ok (.imul, 1) := by decide +kernel
theorem dX6_says_8 : decode cX6_says 8 = .ok (.iconst 1, 1) := by decide +kernel
theorem dX6_says_9 : decode cX6_says 9 = .ok (.iadd, 1) := by decide +kernel
theorem dX6_says_10 : decode cX6_says 10 = .ok (.iaload, 1) := by decide +kernel
theorem dX6_says_11 : decode cX6_says 11 = .ok (.putfield 188, 3) := by decide +kernel
theorem dX6_says_14 : decode cX6_says 14 = .ok (.aload_n 0, 1) := by decide +kernel
theorem dX6_says_15 : decode cX6_says 15 = .ok (.iload_n 3, 1) := by decide +kernel
theorem dX6_says_16 : decode cX6_says 16 = .ok (.iconst (-1), 1) := by decide +kernel
theorem dX6_says_17 : decode cX6_says 17 = .ok (.if_icmp .ne 7, 3) := by decide +kernel
theorem dX6_says_20 : decode cX6_says 20 = .ok (.iconst 0, 1) := by decide +kernel
theorem dX6_says_21 : decode cX6_says 21 = .ok (.goto 13, 3) := by decide +kernel
theorem dX6_says_24 : decode cX6_says 24 = .ok (.aload_n 0, 1) := by decide +kernel
theorem dX6_says_25 : decode cX6_says 25 = .ok (.getfield 23, 3) := by decide +kernel
theorem dX6_says_28 : decode cX6_says 28 = .ok (.iconst 3, 1) := by decide +kernel
theorem dX6_says_29 : decode cX6_says 29 = .ok (.iload_n 3, 1) := by decide +kernel
theorem dX6_says_30 : decode cX6_says 30 = .ok (.imul, 1) := by decide +kernel
theorem dX6_says_31 : decode cX6_says 31 = .ok (.iconst 1, 1) := by decide +kernel
theorem dX6_says_32 : decode cX6_says 32 = .ok (.iadd, 1) := by decide +kernel
theorem dX6_says_33 : decode cX6_says 33 = .ok (.iaload, 1) := by decide +kernel
theorem dX6_says_34 : decode cX6_says 34 = .ok (.putfield 191, 3) := by decide +kernel
theorem dX6_says_37 : decode cX6_says 37 = .ok (.aload_n 0, 1) := by decide +kernel
theorem dX6_says_38 : decode cX6_says 38 = .ok (.aload_n 0, 1) := by decide +kernel
theorem dX6_says_39 : decode cX6_says 39 = .ok (.getfield 23, 3) := by decide +kernel
theorem dX6_says_42 : decode cX6_says 42 = .ok (.iconst 3, 1) := by decide +kernel
theorem dX6_says_43 : decode cX6_says 43 = .ok (.iload_n 2, 1) := by decide +kernel
theorem dX6_says_44 : decode cX6_says 44 = .ok (.imul, 1) := by decide +kernel
theorem dX6_says_45 : decode cX6_says 45 = .ok (.iaload, 1) := by decide +kernel
theorem dX6_says_46 : decode cX6_says 46 = .ok (.putfield 194, 3) := by decide +kernel
theorem dX6_says_49 : decode cX6_says 49 = .ok (.aload_n 0, 1) := by decide +kernel
theorem dX6_says_50 : decode cX6_says 50 = .ok (.aload_n 0, 1) := by decide +kernel
theorem dX6_says_51 : decode cX6_says 51 = .ok (.getfield 102, 3) := by decide +kernel
theorem dX6_says_54 : decode cX6_says 54 = .ok (.putfield 197, 3) := by decide +kernel
theorem dX6_says_57 : decode cX6_says 57 = .ok (.aload_n 0, 1) := by decide +kernel
theorem dX6_says_58 : decode cX6_says 58 = .ok (.aload_n 0, 1) := by decide +kernel
theorem dX6_says_59 : decode cX6_says 59 = .ok (.getfield 105, 3) := by decide +kernel
theorem dX6_says_62 : decode cX6_says 62 = .ok (.putfield 200, 3) := by decide +kernel
theorem dX6_says_65 : decode cX6_says 65 = .ok (.aload_n 0, 1) := by decide +kernel
theorem dX6_says_66 : decode cX6_says 66 = .ok (.aload_n 0, 1) := by decide +kernel
theorem dX6_says_67 : decode cX6_says 67 = .ok (.getfield 78, 3) := by decide +kernel
theorem dX6_says_70 : decode cX6_says 70 = .ok (.putfield 203, 3) := by decide +kernel
theorem dX6_says_73 : decode cX6_says 73 = .ok (.aload_n 0, 1) := by decide +kernel
theorem dX6_says_74 : decode cX6_says 74 = .ok (.aload_n 0, 1) := by decide +kernel
theorem dX6_says_75 : decode cX6_says 75 = .ok (.getfield 108, 3) := by decide +kernel
theorem dX6_says_78 : decode cX6_says 78 = .ok (.iload_n 1, 1) := by decide +kernel
theorem dX6_says_79 : decode cX6_says 79 = .ok (.invokevirtual 243, 3) := by decide +kernel
theorem dX6_says_82 : decode cX6_says 82 = .ok (.iconst 0, 1) := by decide +kernel
theorem dX6_says_83 : decode cX6_says 83 = .ok (.bipush 99, 2) := by decide +kernel
theorem dX6_says_85 : decode cX6_says 85 = .ok (.invokestatic 246, 3) := by decide +kernel
theorem dX6_says_88 : decode cX6_says 88 = .ok (.ireturn, 1) := by decide +kernel
theorem dX6_gripsOf_0 : decode cX6_gripsOf 0 = .ok (.aload_n 0, 1) := by decide +kernel
theorem dX6_gripsOf_1 : decode cX6_gripsOf 1 = .ok (.getfield 23, 3) := by decide +kernel
theorem dX6_gripsOf_4 : decode cX6_gripsOf 4 = .ok (.iconst 3, 1) := by decide +kernel
theorem dX6_gripsOf_5 : decode cX6_gripsOf 5 = .ok (.iload_n 1, 1) := by decide +kernel
theorem dX6_gripsOf_6 : decode cX6_gripsOf 6 = .ok (.imul, 1) := by decide +kernel
theorem dX6_gripsOf_7 : decode cX6_gripsOf 7 = .ok (.iconst 2, 1) := by decide +kernel
theorem dX6_gripsOf_8 : decode cX6_gripsOf 8 = .ok (.iadd, 1) := by decide +kernel
theorem dX6_gripsOf_9 : decode cX6_gripsOf 9 = .ok (.iaload, 1) := by decide +kernel
theorem dX6_gripsOf_10 : decode cX6_gripsOf 10 = .ok (.istore_n 3, 1) := by decide +kernel
theorem dX6_gripsOf_11 : decode cX6_gripsOf 11 = .ok (.iload_n 3, 1) := by decide +kernel
theorem dX6_gripsOf_12 : decode cX6_gripsOf 12 = .ok (.iconst 5, 1) := by decide +kernel
theorem dX6_gripsOf_13 : decode cX6_gripsOf 13 = .ok (.if_icmp .eq 27, 3) := by decide +kernel
theorem dX6_gripsOf_16 : decode cX6_gripsOf 16 = .ok (.iload_n 3, 1) := by decide +kernel
theorem dX6_gripsOf_17 : decode cX6_gripsOf 17 = .ok (.iconst 3, 1) := by decide +kernel
theorem dX6_gripsOf_18 : decode cX6_gripsOf 18 = .ok (.if_icmp .ne 43, 3) := by decide +kernel
theorem dX6_gripsOf_21 : decode cX6_gripsOf 21 = .ok (.aload_n 0, 1) := by decide +kernel
theorem dX6_gripsOf_22 : decode cX6_gripsOf 22 = .ok (.getfield 23, 3) := by decide +kernel
theorem dX6_gripsOf_25 : decode cX6_gripsOf 25 = .ok (.iconst 3, 1) := by decide +kernel
theorem dX6_gripsOf_26 : decode cX6_gripsOf 26 = .ok (.iload_n 1, 1) := by decide +kernel
theorem dX6_gripsOf_27 : decode cX6_gripsOf 27 = .ok (.imul, 1) := by decide +kernel
theorem dX6_gripsOf_28 : decode cX6_gripsOf 28 = .ok (.iaload, 1) := by decide +kernel
theorem dX6_gripsOf_29 : decode cX6_gripsOf 29 = .ok (.aload_n 0, 1) := by decide +kernel
theorem dX6_gripsOf_30 : decode cX6_gripsOf 30 = .ok (.getfield 23, 3) := by decide +kernel
theorem dX6_gripsOf_33 : decode cX6_gripsOf 33 = .ok (.iconst 3, 1) := by decide +kernel
theorem dX6_gripsOf_34 : decode cX6_gripsOf 34 = .ok (.iload_n 2, 1) := by decide +kernel
theorem dX6_gripsOf_35 : decode cX6_gripsOf 35 = .ok (.imul, 1) := by decide +kernel
theorem dX6_gripsOf_36 : decode cX6_gripsOf 36 = .ok (.iaload, 1) := by decide +kernel
theorem dX6_gripsOf_37 : decode cX6_gripsOf 37 = .ok (.if_icmp .ne 24, 3) := by decide +kernel
theorem dX6_gripsOf_40 : decode cX6_gripsOf 40 = .ok (.iload_n 3, 1) := by decide +kernel
theorem dX6_gripsOf_41 : decode cX6_gripsOf 41 = .ok (.iconst 5, 1) := by decide +kernel
theorem dX6_gripsOf_42 : decode cX6_gripsOf 42 = .ok (.if_icmp .ne 16, 3) := by decide +kernel
theorem dX6_gripsOf_45 : decode cX6_gripsOf 45 = .ok (.aload_n 0, 1) := by decide +kernel
theorem dX6_gripsOf_46 : decode cX6_gripsOf 46 = .ok (.getfield 23, 3) := by decide +kernel
theorem dX6_gripsOf_49 : decode cX6_gripsOf 49 = .ok (.iconst 3, 1) := by decide +kernel
theorem dX6_gripsOf_50 : decode cX6_gripsOf 50 = .ok (.iload_n 1, 1) := by decide +kernel
theorem dX6_gripsOf_51 : decode cX6_gripsOf 51 = .ok (.imul, 1) := by decide +kernel
theorem dX6_gripsOf_52 : decode cX6_gripsOf 52 = .ok (.iconst 1, 1) := by decide +kernel
theorem dX6_gripsOf_53 : decode cX6_gripsOf 53 = .ok (.iadd, 1) := by decide +kernel
theorem dX6_gripsOf_54 : decode cX6_gripsOf 54 = .ok (.iaload, 1) := by decide +kernel
theorem dX6_gripsOf_55 : decode cX6_gripsOf 55 = .ok (.goto 5, 3) := by decide +kernel
theorem dX6_gripsOf_58 : decode cX6_gripsOf 58 = .ok (.bipush 99, 2) := by decide +kernel
theorem dX6_gripsOf_60 : decode cX6_gripsOf 60 = .ok (.ireturn, 1) := by decide +kernel
theorem dX6_gripsOf_61 : decode cX6_gripsOf 61 = .ok (.aload_n 0, 1) := by decide +kernel
theorem dX6_gripsOf_62 : decode cX6_gripsOf 62 = .ok (.iconst 0, 1) := by decide +kernel
theorem dX6_gripsOf_63 : decode cX6_gripsOf 63 = .ok (.iload_n 1, 1) := by decide +kernel
theorem dX6_gripsOf_64 : decode cX6_gripsOf 64 = .ok (.iload_n 2, 1) := by decide +kernel
theorem dX6_gripsOf_65 : decode cX6_gripsOf 65 = .ok (.invokevirtual 250, 3) := by decide +kernel
theorem dX6_gripsOf_68 : decode cX6_gripsOf 68 = .ok (.istore 4, 2) := by decide +kernel
theorem dX6_gripsOf_70 : decode cX6_gripsOf 70 = .ok (.aload_n 0, 1) := by decide +kernel
theorem dX6_gripsOf_71 : decode cX6_gripsOf 71 = .ok (.getfield 23, 3) := by decide +kernel
theorem dX6_gripsOf_74 : decode cX6_gripsOf 74 = .ok (.iconst 3, 1) := by decide +kernel
theorem dX6_gripsOf_75 : decode cX6_gripsOf 75 = .ok (.iload_n 2, 1) := by decide +kernel
theorem dX6_gripsOf_76 : decode cX6_gripsOf 76 = .ok (.imul, 1) := by decide +kernel
theorem dX6_gripsOf_77 : decode cX6_gripsOf 77 = .ok (.iconst 2, 1) := by decide +kernel
theorem dX6_gripsOf_78 : decode cX6_gripsOf 78 = .ok (.iadd, 1) := by decide +kernel
theorem dX6_gripsOf_79 : decode cX6_gripsOf 79 = .ok (.iaload, 1) := by decide +kernel
theorem dX6_gripsOf_80 : decode cX6_gripsOf 80 = .ok (.istore 5, 2) := by decide +kernel
theorem dX6_gripsOf_82 : decode cX6_gripsOf 82 = .ok (.iload 5, 2) := by decide +kernel
theorem dX6_gripsOf_84 : decode cX6_gripsOf 84 = .ok (.iconst 1, 1) := by decide +kernel
theorem dX6_gripsOf_85 : decode cX6_gripsOf 85 = .ok (.if_icmp .eq 9, 3) := by decide +kernel
theorem dX6_gripsOf_88 : decode cX6_gripsOf 88 = .ok (.iload 5, 2) := by decide +kernel
theorem dX6_gripsOf_90 : decode cX6_gripsOf 90 = .ok (.iconst 3, 1) := by decide +kernel
theorem dX6_gripsOf_91 : decode cX6_gripsOf 91 = .ok (.if_icmp .ne 10, 3) := by decide +kernel
theorem dX6_gripsOf_94 : decode cX6_gripsOf 94 = .ok (.iconst 2, 1) := by decide +kernel
theorem dX6_gripsOf_95 : decode cX6_gripsOf 95 = .ok (.iload 4, 2) := by decide +kernel
theorem dX6_gripsOf_97 : decode cX6_gripsOf 97 = .ok (.imul, 1) := by decide +kernel
theorem dX6_gripsOf_98 : decode cX6_gripsOf 98 = .ok (.goto 5, 3) := by decide +kernel
theorem dX6_gripsOf_101 : decode cX6_gripsOf 101 = .ok (.iload 4, 2) := by decide +kernel
theorem dX6_gripsOf_103 : decode cX6_gripsOf 103 = .ok (.istore 6, 2) := by decide +kernel
theorem dX6_gripsOf_105 : decode cX6_gripsOf 105 = .ok (.iload 4, 2) := by decide +kernel
theorem dX6_gripsOf_107 : decode cX6_gripsOf 107 = .ok (.aload_n 0, 1) := by decide +kernel
theorem dX6_gripsOf_108 : decode cX6_gripsOf 108 = .ok (.getfield 23, 3) := by decide +kernel
theorem dX6_gripsOf_111 : decode cX6_gripsOf 111 = .ok (.iconst 3, 1) := by decide +kernel
theorem dX6_gripsOf_112 : decode cX6_gripsOf 112 = .ok (.iload_n 1, 1) := by decide +kernel
theorem dX6_gripsOf_113 : decode cX6_gripsOf 113 = .ok (.imul, 1) := by decide +kernel
theorem dX6_gripsOf_114 : decode cX6_gripsOf 114 = .ok (.iaload, 1) := by decide +kernel
theorem dX6_gripsOf_115 : decode cX6_gripsOf 115 = .ok (.isub, 1) := by decide +kernel
theorem dX6_gripsOf_116 : decode cX6_gripsOf 116 = .ok (.istore 7, 2) := by decide +kernel
theorem dX6_gripsOf_118 : decode cX6_gripsOf 118 = .ok (.iload_n 3, 1) := by decide +kernel
theorem dX6_gripsOf_119 : decode cX6_gripsOf 119 = .ok (.iconst 1, 1) := by decide +kernel
theorem dX6_gripsOf_120 : decode cX6_gripsOf 120 = .ok (.if_icmp .eq 8, 3) := by decide +kernel
theorem dX6_gripsOf_123 : decode cX6_gripsOf 123 = .ok (.iload_n 3, 1) := by decide +kernel
theorem dX6_gripsOf_124 : decode cX6_gripsOf 124 = .ok (.iconst 3, 1) := by decide +kernel
theorem dX6_gripsOf_125 : decode cX6_gripsOf 125 = .ok (.if_icmp .ne 8, 3) := by decide +kernel
theorem dX6_gripsOf_128 : decode cX6_gripsOf 128 = .ok (.iload 6, 2) := by decide +kernel
theorem dX6_gripsOf_130 : decode cX6_gripsOf 130 = .ok (.goto 36, 3) := by decide +kernel
theorem dX6_gripsOf_133 : decode cX6_gripsOf 133 = .ok (.iload_n 3, 1) := by decide +kernel
theorem dX6_gripsOf_134 : decode cX6_gripsOf 134 = .ok (.iconst 2, 1) := by decide +kernel
theorem dX6_gripsOf_135 : decode cX6_gripsOf 135 = .ok (.if_icmp .ne 8, 3) := by decide +kernel
theorem dX6_gripsOf_138 : decode cX6_gripsOf 138 = .ok (.iload 7, 2) := by decide +kernel
theorem dX6_gripsOf_140 : decode cX6_gripsOf 140 = .ok (.goto 26, 3) := by decide +kernel
theorem dX6_gripsOf_143 : decode cX6_gripsOf 143 = .ok (.iload_n 3, 1) := by decide +kernel
theorem dX6_gripsOf_144 : decode cX6_gripsOf 144 = .ok (.iconst 4, 1) := by decide +kernel
theorem dX6_gripsOf_145 : decode cX6_gripsOf 145 = .ok (.if_icmp .ne 19, 3) := by decide +kernel
theorem dX6_gripsOf_148 : decode cX6_gripsOf 148 = .ok (.iload 7, 2) := by decide +kernel
theorem dX6_gripsOf_150 : decode cX6_gripsOf 150 = .ok (.aload_n 0, 1) := by decide +kernel
theorem dX6_gripsOf_151 : decode cX6_gripsOf 151 = .ok (.getfield 102, 3) := by decide +kernel
theorem dX6_gripsOf_154 : decode cX6_gripsOf 154 = .ok (.iconst 0, 1) := by decide +kernel
theorem dX6_gripsOf_155 : decode cX6_gripsOf 155 = .ok (.bipush 20, 2) := by decide +kernel
theorem dX6_gripsOf_157 : decode cX6_gripsOf 157 = .ok (.invokestatic 246, 3) := by decide +kernel
theorem dX6_gripsOf_160 : decode cX6_gripsOf 160 = .ok (.iadd, 1) := by decide +kernel
theorem dX6_gripsOf_161 : decode cX6_gripsOf 161 = .ok (.goto 5, 3) := by decide +kernel
theorem dX6_gripsOf_164 : decode cX6_gripsOf 164 = .ok (.iload 4, 2) := by decide +kernel
theorem dX6_gripsOf_166 : decode cX6_gripsOf 166 = .ok (.iconst 0, 1) := by decide +kernel
theorem dX6_gripsOf_167 : decode cX6_gripsOf 167 = .ok (.bipush 99, 2) := by decide +kernel
theorem dX6_gripsOf_169 : decode cX6_gripsOf 169 = .ok (.invokestatic 246, 3) := by decide +kernel
theorem dX6_gripsOf_172 : decode cX6_gripsOf 172 = .ok (.ireturn, 1) := by decide +kernel
theorem dX6_handsOf_0 : decode cX6_handsOf 0 = .ok (.aload_n 0, 1) := by decide +kernel
theorem dX6_handsOf_1 : decode cX6_handsOf 1 = .ok (.getfield 23, 3) := by decide +kernel
theorem dX6_handsOf_4 : decode cX6_handsOf 4 = .ok (.iconst 3, 1) := by decide +kernel
theorem dX6_handsOf_5 : decode cX6_handsOf 5 = .ok (.iload_n 1, 1) := by decide +kernel
theorem dX6_handsOf_6 : decode cX6_handsOf 6 = .ok (.imul, 1) := by decide +kernel
theorem dX6_handsOf_7 : decode cX6_handsOf 7 = .ok (.iconst 2, 1) := by decide +kernel
theorem dX6_handsOf_8 : decode cX6_handsOf 8 = .ok (.iadd, 1) := by decide +kernel
theorem dX6_handsOf_9 : decode cX6_handsOf 9 = .ok (.iaload, 1) := by decide +kernel
theorem dX6_handsOf_10 : decode cX6_handsOf 10 = .ok (.istore_n 3, 1) := by decide +kernel
theorem dX6_handsOf_11 : decode cX6_handsOf 11 = .ok (.iload_n 3, 1) := by decide +kernel
theorem dX6_handsOf_12 : decode cX6_handsOf 12 = .ok (.iconst 1, 1) := by decide +kernel
theorem dX6_handsOf_13 : decode cX6_handsOf 13 = .ok (.if_icmp .eq 27, 3) := by decide +kernel
theorem dX6_handsOf_16 : decode cX6_handsOf 16 = .ok (.iload_n 3, 1) := by decide +kernel
theorem dX6_handsOf_17 : decode cX6_handsOf 17 = .ok (.iconst 3, 1) := by decide +kernel
theorem dX6_handsOf_18 : decode cX6_handsOf 18 = .ok (.if_icmp .ne 12, 3) := by decide +kernel
theorem dX6_handsOf_21 : decode cX6_handsOf 21 = .ok (.aload_n 0, 1) := by decide +kernel
theorem dX6_handsOf_22 : decode cX6_handsOf 22 = .ok (.getfield 102, 3) := by decide +kernel
theorem dX6_handsOf_25 : decode cX6_handsOf 25 = .ok (.iconst 2, 1) := by decide +kernel
theorem dX6_handsOf_26 : decode cX6_handsOf 26 = .ok (.irem, 1) := by decide +kernel
theorem dX6_handsOf_27 : decode cX6_handsOf 27 = .ok (.ifCond .eq 13, 3) := by decide +kernel
theorem dX6_handsOf_30 : decode cX6_handsOf 30 = .ok (.iload_n 3, 1) := by decide +kernel
theorem dX6_handsOf_31 : decode cX6_handsOf 31 = .ok (.iconst 4, 1) := by decide +kernel
theorem dX6_handsOf_32 : decode cX6_handsOf 32 = .ok (.if_icmp .ne 10, 3) := by decide +kernel
theorem dX6_handsOf_35 : decode cX6_handsOf 35 = .ok (.iload_n 2, 1) := by decide +kernel
theorem dX6_handsOf_36 : decode cX6_handsOf 36 = .ok (.iconst 5, 1) := by decide +kernel
theorem dX6_handsOf_37 : decode cX6_handsOf 37 = .ok (.if_icmp .ge 5, 3) := by decide +kernel
theorem dX6_handsOf_40 : decode cX6_handsOf 40 = .ok (.iload_n 2, 1) := by decide +kernel
theorem dX6_handsOf_41 : decode cX6_handsOf 41 = .ok (.ireturn, 1) := by decide +kernel
theorem dX6_handsOf_42 : decode cX6_handsOf 42 = .ok (.iload_n 2, 1) := by decide +kernel
theorem dX6_handsOf_43 : decode cX6_handsOf 43 = .ok (.aload_n 0, 1) := by decide +kernel
theorem dX6_handsOf_44 : decode cX6_handsOf 44 = .ok (.iconst 1, 1) := by decide +kernel
theorem dX6_handsOf_45 : decode cX6_handsOf 45 = .ok (.iload_n 1, 1) := by decide +kernel
theorem dX6_handsOf_46 : decode cX6_handsOf 46 = .ok (.iconst (-1), 1) := by decide +kernel
theorem dX6_handsOf_47 : decode cX6_handsOf 47 = .ok (.invokevirtual 250, 3) := by decide +kernel
theorem dX6_handsOf_50 : decode cX6_handsOf 50 = .ok (.isub, 1) := by decide +kernel
theorem dX6_handsOf_51 : decode cX6_handsOf 51 = .ok (.istore 4, 2) := by decide +kernel
theorem dX6_handsOf_53 : decode cX6_handsOf 53 = .ok (.iload_n 3, 1) := by decide +kernel
theorem dX6_handsOf_54 : decode cX6_handsOf 54 = .ok (.iconst 2, 1) := by decide +kernel
theorem dX6_handsOf_55 : decode cX6_handsOf 55 = .ok (.if_icmp .eq 8, 3) := by decide +kernel
theorem dX6_handsOf_58 : decode cX6_handsOf 58 = .ok (.iload_n 3, 1) := by decide +kernel
theorem dX6_handsOf_59 : decode cX6_handsOf 59 = .ok (.iconst 4, 1) := by decide +kernel
theorem dX6_handsOf_60 : decode cX6_handsOf 60 = .ok (.if_icmp .ne 10, 3) := by decide +kernel
theorem dX6_handsOf_63 : decode cX6_handsOf 63 = .ok (.iload 4, 2) := by decide +kernel
theorem dX6_handsOf_65 : decode cX6_handsOf 65 = .ok (.iconst 2, 1) := by decide +kernel
theorem dX6_handsOf_66 : decode cX6_handsOf 66 = .ok (.idiv, 1) := by decide +kernel
theorem dX6_handsOf_67 : decode cX6_handsOf 67 = .ok (.goto 18, 3) := by decide +kernel
theorem dX6_handsOf_70 : decode cX6_handsOf 70 = .ok (.iload_n 3, 1) := by decide +kernel
theorem dX6_handsOf_71 : decode cX6_handsOf 71 = .ok (.iconst 5, 1) := by decide +kernel
theorem dX6_handsOf_72 : decode cX6_handsOf 72 = .ok (.if_icmp .ne 11, 3) := by decide +kernel
theorem dX6_handsOf_75 : decode cX6_handsOf 75 = .ok (.iload 4, 2) := by decide +kernel
theorem dX6_handsOf_77 : decode cX6_handsOf 77 = .ok (.bipush 10, 2) := by decide +kernel
theorem dX6_handsOf_79 : decode cX6_handsOf 79 = .ok (.iadd, 1) := by decide +kernel
theorem dX6_handsOf_80 : decode cX6_handsOf 80 = .ok (.goto 5, 3) := by decide +kernel
theorem dX6_handsOf_83 : decode cX6_handsOf 83 = .ok (.iload 4, 2) := by decide +kernel
theorem dX6_handsOf_85 : decode cX6_handsOf 85 = .ok (.iconst 0, 1) := by decide +kernel
theorem dX6_handsOf_86 : decode cX6_handsOf 86 = .ok (.bipush 99, 2) := by decide +kernel
theorem dX6_handsOf_88 : decode cX6_handsOf 88 = .ok (.invokestatic 246, 3) := by decide +kernel
theorem dX6_handsOf_91 : decode cX6_handsOf 91 = .ok (.ireturn, 1) := by decide +kernel
theorem dX6_spentOf_0 : decode cX6_spentOf 0 = .ok (.aload_n 0, 1) := by decide +kernel
theorem dX6_spentOf_1 : decode cX6_spentOf 1 = .ok (.getfield 23, 3) := by decide +kernel
theorem dX6_spentOf_4 : decode cX6_spentOf 4 = .ok (.iconst 3, 1) := by decide +kernel
theorem dX6_spentOf_5 : decode cX6_spentOf 5 = .ok (.iload_n 1, 1) := by decide +kernel
theorem dX6_spentOf_6 : decode cX6_spentOf 6 = .ok (.imul, 1) := by decide +kernel
theorem dX6_spentOf_7 : decode cX6_spentOf 7 = .ok (.iconst 2, 1) := by decide +kernel
theorem dX6_spentOf_8 : decode cX6_spentOf 8 = .ok (.iadd, 1) := by decide +kernel
theorem dX6_spentOf_9 : decode cX6_spentOf 9 = .ok (.iaload, 1) := by decide +kernel
theorem dX6_spentOf_10 : decode cX6_spentOf 10 = .ok (.istore_n 2, 1) := by decide +kernel
theorem dX6_spentOf_11 : decode cX6_spentOf 11 = .ok (.iload_n 2, 1) := by decide +kernel
theorem dX6_spentOf_12 : decode cX6_spentOf 12 = .ok (.iconst 5, 1) := by decide +kernel
theorem dX6_spentOf_13 : decode cX6_spentOf 13 = .ok (.if_icmp .eq 17, 3) := by decide +kernel
theorem dX6_spentOf_16 : decode cX6_spentOf 16 = .ok (.iload_n 2, 1) := by decide +kernel
theorem dX6_spentOf_17 : decode cX6_spentOf 17 = .ok (.iconst 4, 1) := by decide +kernel
theorem dX6_spentOf_18 : decode cX6_spentOf 18 = .ok (.if_icmp .ne 14, 3) := by decide +kernel
theorem dX6_spentOf_21 : decode cX6_spentOf 21 = .ok (.aload_n 0, 1) := by decide +kernel
theorem dX6_spentOf_22 : decode cX6_spentOf 22 = .ok (.getfield 105, 3) := by decide +kernel
theorem dX6_spentOf_25 : decode cX6_spentOf 25 = .ok (.bipush 21, 2) := by decide +kernel
theorem dX6_spentOf_27 : decode cX6_spentOf 27 = .ok (.if_icmp .ge 5, 3) := by decide +kernel
theorem dX6_spentOf_30 : decode cX6_spentOf 30 = .ok (.iconst 0, 1) := by decide +kernel
theorem dX6_spentOf_31 : decode cX6_spentOf 31 = .ok (.ireturn, 1) := by decide +kernel
theorem dX6_spentOf_32 : decode cX6_spentOf 32 = .ok (.aload_n 0, 1) := by decide +kernel
theorem dX6_spentOf_33 : decode cX6_spentOf 33 = .ok (.iconst 2, 1) := by decide +kernel
theorem dX6_spentOf_34 : decode cX6_spentOf 34 = .ok (.iload_n 1, 1) := by decide +kernel
theorem dX6_spentOf_35 : decode cX6_spentOf 35 = .ok (.iconst (-1), 1) := by decide +kernel
theorem dX6_spentOf_36 : decode cX6_spentOf 36 = .ok (.invokevirtual 250, 3) := by decide +kernel
theorem dX6_spentOf_39 : decode cX6_spentOf 39 = .ok (.istore_n 3, 1) := by decide +kernel
theorem dX6_spentOf_40 : decode cX6_spentOf 40 = .ok (.iload_n 2, 1) := by decide +kernel
theorem dX6_spentOf_41 : decode cX6_spentOf 41 = .ok (.iconst 1, 1) := by decide +kernel
theorem dX6_spentOf_42 : decode cX6_spentOf 42 = .ok (.if_icmp .eq 8, 3) := by decide +kernel
theorem dX6_spentOf_45 : decode cX6_spentOf 45 = .ok (.iload_n 2, 1) := by decide +kernel
theorem dX6_spentOf_46 : decode cX6_spentOf 46 = .ok (.iconst 3, 1) := by decide +kernel
theorem dX6_spentOf_47 : decode cX6_spentOf 47 = .ok (.if_icmp .ne 9, 3) := by decide +kernel
theorem dX6_spentOf_50 : decode cX6_spentOf 50 = .ok (.iload_n 3, 1) := by decide +kernel
theorem dX6_spentOf_51 : decode cX6_spentOf 51 = .ok (.iconst 2, 1) := by decide +kernel
theorem dX6_spentOf_52 : decode cX6_spentOf 52 = .ok (.idiv, 1) := by decide +kernel
theorem dX6_spentOf_53 : decode cX6_spentOf 53 = .ok (.goto 14, 3) := by decide +kernel
theorem dX6_spentOf_56 : decode cX6_spentOf 56 = .ok (.iload_n 2, 1) := by decide +kernel
theorem dX6_spentOf_57 : decode cX6_spentOf 57 = .ok (.ifCond .ne 7, 3) := by decide +kernel
theorem dX6_spentOf_60 : decode cX6_spentOf 60 = .ok (.iload_n 3, 1) := by decide +kernel
theorem dX6_spentOf_61 : decode cX6_spentOf 61 = .ok (.goto 6, 3) := by decide +kernel
theorem dX6_spentOf_64 : decode cX6_spentOf 64 = .ok (.iload_n 3, 1) := by decide +kernel
theorem dX6_spentOf_65 : decode cX6_spentOf 65 = .ok (.iconst 1, 1) := by decide +kernel
theorem dX6_spentOf_66 : decode cX6_spentOf 66 = .ok (.iadd, 1) := by decide +kernel
theorem dX6_spentOf_67 : decode cX6_spentOf 67 = .ok (.iconst 0, 1) := by decide +kernel
theorem dX6_spentOf_68 : decode cX6_spentOf 68 = .ok (.bipush 99, 2) := by decide +kernel
theorem dX6_spentOf_70 : decode cX6_spentOf 70 = .ok (.invokestatic 246, 3) := by decide +kernel
theorem dX6_spentOf_73 : decode cX6_spentOf 73 = .ok (.ireturn, 1) := by decide +kernel
theorem dX6_grips_0 : decode cX6_grips 0 = .ok (.aload_n 0, 1) := by decide +kernel
theorem dX6_grips_1 : decode cX6_grips 1 = .ok (.iload_n 1, 1) := by decide +kernel
theorem dX6_grips_2 : decode cX6_grips 2 = .ok (.iload_n 2, 1) := by decide +kernel
theorem dX6_grips_3 : decode cX6_grips 3 = .ok (.invokevirtual 253, 3) := by decide +kernel
theorem dX6_grips_6 : decode cX6_grips 6 = .ok (.ifCond .eq 12, 3) := by decide +kernel
theorem dX6_grips_9 : decode cX6_grips 9 = .ok (.aload_n 0, 1) := by decide +kernel
theorem dX6_grips_10 : decode cX6_grips 10 = .ok (.iload_n 1, 1) := by decide +kernel
theorem dX6_grips_11 : decode cX6_grips 11 = .ok (.iload_n 2, 1) := by decide +kernel
theorem dX6_grips_12 : decode cX6_grips 12 = .ok (.invokevirtual 256, 3) := by decide +kernel
theorem dX6_grips_15 : decode cX6_grips 15 = .ok (.goto 5, 3) := by decide +kernel
theorem dX6_grips_18 : decode cX6_grips 18 = .ok (.bipush (-2), 2) := by decide +kernel
theorem dX6_grips_20 : decode cX6_grips 20 = .ok (.ireturn, 1) := by decide +kernel
theorem dX6_hands_0 : decode cX6_hands 0 = .ok (.aload_n 0, 1) := by decide +kernel
theorem dX6_hands_1 : decode cX6_hands 1 = .ok (.iload_n 1, 1) := by decide +kernel
theorem dX6_hands_2 : decode cX6_hands 2 = .ok (.invokevirtual 74, 3) := by decide +kernel
theorem dX6_hands_5 : decode cX6_hands 5 = .ok (.ifCond .eq 24, 3) := by decide +kernel
theorem dX6_hands_8 : decode cX6_hands 8 = .ok (.iload_n 2, 1) := by decide +kernel
theorem dX6_hands_9 : decode cX6_hands 9 = .ok (.i2l, 1) := by decide +kernel
theorem dX6_hands_10 : decode cX6_hands 10 = .ok (.lconst 0, 1) := by decide +kernel
theorem dX6_hands_11 : decode cX6_hands 11 = .ok (.ldc2_w 115, 3) := by decide +kernel
theorem dX6_hands_14 : decode cX6_hands 14 = .ok (.invokestatic 70, 3) := by decide +kernel
theorem dX6_hands_17 : decode cX6_hands 17 = .ok (.ifCond .eq 12, 3) := by decide +kernel
theorem dX6_hands_20 : decode cX6_hands 20 = .ok (.aload_n 0, 1) := by decide +kernel
theorem dX6_hands_21 : decode cX6_hands 21 = .ok (.iload_n 1, 1) := by decide +kernel
theorem dX6_hands_22 : decode cX6_hands 22 = .ok (.iload_n 2, 1) := by decide +kernel
theorem dX6_hands_23 : decode cX6_hands 23 = .ok (.invokevirtual 259, 3) := by decide +kernel
theorem dX6_hands_26 : decode cX6_hands 26 = .ok (.goto 5, 3) := by decide +kernel
theorem dX6_hands_29 : decode cX6_hands 29 = .ok (.bipush (-2), 2) := by decide +kernel
theorem dX6_hands_31 : decode cX6_hands 31 = .ok (.ireturn, 1) := by decide +kernel
theorem dX6_hold_0 : decode cX6_hold 0 = .ok (.aload_n 0, 1) := by decide +kernel
theorem dX6_hold_1 : decode cX6_hold 1 = .ok (.getfield 26, 3) := by decide +kernel
theorem dX6_hold_4 : decode cX6_hold 4 = .ok (.iload_n 1, 1) := by decide +kernel
theorem dX6_hold_5 : decode cX6_hold 5 = .ok (.iaload, 1) := by decide +kernel
theorem dX6_hold_6 : decode cX6_hold 6 = .ok (.istore_n 2, 1) := by decide +kernel
theorem dX6_hold_7 : decode cX6_hold 7 = .ok (.aload_n 0, 1) := by decide +kernel
theorem dX6_hold_8 : decode cX6_hold 8 = .ok (.getfield 26, 3) := by decide +kernel
theorem dX6_hold_11 : decode cX6_hold 11 = .ok (.iload_n 1, 1) := by decide +kernel
theorem dX6_hold_12 : decode cX6_hold 12 = .ok (.iconst 1, 1) := by decide +kernel
theorem dX6_hold_13 : decode cX6_hold 13 = .ok (.iadd, 1) := by decide +kernel
theorem dX6_hold_14 : decode cX6_hold 14 = .ok (.aload_n 0, 1) := by decide +kernel
theorem dX6_hold_15 : decode cX6_hold 15 = .ok (.getfield 78, 3) := by decide +kernel
theorem dX6_hold_18 : decode cX6_hold 18 = .ok (.irem, 1) := by decide +kernel
theorem dX6_hold_19 : decode cX6_hold 19 = .ok (.iaload, 1) := by decide +kernel
theorem dX6_hold_20 : decode cX6_hold 20 = .ok (.istore_n 3, 1) := by decide +kernel
theorem dX6_hold_21 : decode cX6_hold 21 = .ok (.aload_n 0, 1) := by decide +kernel
theorem dX6_hold_22 : decode cX6_hold 22 = .ok (.iload_n 2, 1) := by decide +kernel
theorem dX6_hold_23 : decode cX6_hold 23 = .ok (.iload_n 3, 1) := by decide +kernel
theorem dX6_hold_24 : decode cX6_hold 24 = .ok (.invokevirtual 256, 3) := by decide +kernel
theorem dX6_hold_27 : decode cX6_hold 27 = .ok (.istore 4, 2) := by decide +kernel
theorem dX6_hold_29 : decode cX6_hold 29 = .ok (.aload_n 0, 1) := by decide +kernel
theorem dX6_hold_30 : decode cX6_hold 30 = .ok (.iload_n 3, 1) := by decide +kernel
theorem dX6_hold_31 : decode cX6_hold 31 = .ok (.iload_n 2, 1) := by decide +kernel
theorem dX6_hold_32 : decode cX6_hold 32 = .ok (.invokevirtual 256, 3) := by decide +kernel
theorem dX6_hold_35 : decode cX6_hold 35 = .ok (.istore 5, 2) := by decide +kernel
theorem dX6_hold_37 : decode cX6_hold 37 = .ok (.iload 4, 2) := by decide +kernel
theorem dX6_hold_39 : decode cX6_hold 39 = .ok (.iload 5, 2) := by decide +kernel
theorem dX6_hold_41 : decode cX6_hold 41 = .ok (.if_icmp .ge 8, 3) := by decide +kernel
theorem dX6_hold_44 : decode cX6_hold 44 = .ok (.iload 4, 2) := by decide +kernel
theorem dX6_hold_46 : decode cX6_hold 46 = .ok (.goto 5, 3) := by decide +kernel
theorem dX6_hold_49 : decode cX6_hold 49 = .ok (.iload 5, 2) := by decide +kernel
theorem dX6_hold_51 : decode cX6_hold 51 = .ok (.ireturn, 1) := by decide +kernel
theorem dX6_weakest_0 : decode cX6_weakest 0 = .ok (.iconst (-1), 1) := by decide +kernel
theorem dX6_weakest_1 : decode cX6_weakest 1 = .ok (.istore_n 1, 1) := by decide +kernel
theorem dX6_weakest_2 : decode cX6_weakest 2 = .ok (.iconst 0, 1) := by decide +kernel
theorem dX6_weakest_3 : decode cX6_weakest 3 = .ok (.istore_n 2, 1) := by decide +kernel
theorem dX6_weakest_4 : decode cX6_weakest 4 = .ok (.iload_n 2, 1) := by decide +kernel
theorem dX6_weakest_5 : decode cX6_weakest 5 = .ok (.aload_n 0, 1) := by decide +kernel
theorem dX6_weakest_6 : decode cX6_weakest 6 = .ok (.getfield 78, 3) := by decide +kernel
theorem dX6_weakest_9 : decode cX6_weakest 9 = .ok (.if_icmp .ge 39, 3) := by decide +kernel
theorem dX6_weakest_12 : decode cX6_weakest 12 = .ok (.aload_n 0, 1) := by decide +kernel
theorem dX6_weakest_13 : decode cX6_weakest 13 = .ok (.getfield 78, 3) := by decide +kernel
theorem dX6_weakest_16 : decode cX6_weakest 16 = .ok (.iconst 1, 1) := by decide +kernel
theorem dX6_weakest_17 : decode cX6_weakest 17 = .ok (.if_icmp .le 31, 3) := by decide +kernel
theorem dX6_weakest_20 : decode cX6_weakest 20 = .ok (.aload_n 0, 1) := by decide +kernel
theorem dX6_weakest_21 : decode cX6_weakest 21 = .ok (.iload_n 2, 1) := by decide +kernel
theorem dX6_weakest_22 : decode cX6_weakest 22 = .ok (.invokevirtual 125, 3) := by decide +kernel
theorem dX6_weakest_25 : decode cX6_weakest 25 = .ok (.istore_n 3, 1) := by decide +kernel
theorem dX6_weakest_26 : decode cX6_weakest 26 = .ok (.iload_n 1, 1) := by decide +kernel
theorem dX6_weakest_27 : decode cX6_weakest 27 = .ok (.iconst (-1), 1) := by decide +kernel
theorem dX6_weakest_28 : decode cX6_weakest 28 = .ok (.if_icmp .eq 8, 3) := by decide +kernel
theorem dX6_weakest_31 : decode cX6_weakest 31 = .ok (.iload_n 3, 1) := by decide +kernel
theorem dX6_weakest_32 : decode cX6_weakest 32 = .ok (.iload_n 1, 1) := by decide +kernel
theorem dX6_weakest_33 : decode cX6_weakest 33 = .ok (.if_icmp .ge 7, 3) := by decide +kernel
theorem dX6_weakest_36 : decode cX6_weakest 36 = .ok (.iload_n 3, 1) := by decide +kernel
theorem dX6_weakest_37 : decode cX6_weakest 37 = .ok (.goto 4, 3) := by decide +kernel
theorem dX6_weakest_40 : decode cX6_weakest 40 = .ok (.iload_n 1, 1) := by decide +kernel
theorem dX6_weakest_41 : decode cX6_weakest 41 = .ok (.istore_n 1, 1) := by decide +kernel
theorem dX6_weakest_42 : decode cX6_weakest 42 = .ok (.iinc 2 1, 3) := by decide +kernel
theorem dX6_weakest_45 : decode cX6_weakest 45 = .ok (.goto (-41), 3) := by decide +kernel
theorem dX6_weakest_48 : decode cX6_weakest 48 = .ok (.iload_n 1, 1) := by decide +kernel
theorem dX6_weakest_49 : decode cX6_weakest 49 = .ok (.ireturn, 1) := by decide +kernel
theorem dX6_gates_0 : decode cX6_gates 0 = .ok (.iconst 0, 1) := by decide +kernel
theorem dX6_gates_1 : decode cX6_gates 1 = .ok (.istore_n 1, 1) := by decide +kernel
theorem dX6_gates_2 : decode cX6_gates 2 = .ok (.iconst 0, 1) := by decide +kernel
theorem dX6_gates_3 : decode cX6_gates 3 = .ok (.istore_n 2, 1) := by decide +kernel
theorem dX6_gates_4 : decode cX6_gates 4 = .ok (.iload_n 2, 1) := by decide +kernel
theorem dX6_gates_5 : decode cX6_gates 5 = .ok (.aload_n 0, 1) := by decide +kernel
theorem dX6_gates_6 : decode cX6_gates 6 = .ok (.getfield 78, 3) := by decide +kernel
theorem dX6_gates_9 : decode cX6_gates 9 = .ok (.if_icmp .ge 33, 3) := by decide +kernel
theorem dX6_gates_12 : decode cX6_gates 12 = .ok (.aload_n 0, 1) := by decide +kernel
theorem dX6_gates_13 : decode cX6_gates 13 = .ok (.getfield 78, 3) := by decide +kernel
theorem dX6_gates_16 : decode cX6_gates 16 = .ok (.iconst 1, 1) := by decide +kernel
theorem dX6_gates_17 : decode cX6_gates 17 = .ok (.if_icmp .le 25, 3) := by decide +kernel
theorem dX6_gates_20 : decode cX6_gates 20 = .ok (.iload_n 1, 1) := by decide +kernel
theorem dX6_gates_21 : decode cX6_gates 21 = .ok (.aload_n 0, 1) := by decide +kernel
theorem dX6_gates_22 : decode cX6_gates 22 = .ok (.iload_n 2, 1) := by decide +kernel
theorem dX6_gates_23 : decode cX6_gates 23 = .ok (.invokevirtual 125, 3) := by decide +kernel
theorem dX6_gates_26 : decode cX6_gates 26 = .ok (.ifCond .ne 7, 3) := by decide +kernel
theorem dX6_gates_29 : decode cX6_gates 29 = .ok (.iconst 1, 1) := by decide +kernel
theorem dX6_gates_30 : decode cX6_gates 30 = .ok (.goto 4, 3) := by decide +kernel
theorem dX6_gates_33 : decode cX6_gates 33 = .ok (.iconst 0, 1) := by decide +kernel
theorem dX6_gates_34 : decode cX6_gates 34 = .ok (.iadd, 1) := by decide +kernel
theorem dX6_gates_35 : decode cX6_gates 35 = .ok (.istore_n 1, 1) := by decide +kernel
theorem dX6_gates_36 : decode cX6_gates 36 = .ok (.iinc 2 1, 3) := by decide +kernel
theorem dX6_gates_39 : decode cX6_gates 39 = .ok (.goto (-35), 3) := by decide +kernel
theorem dX6_gates_42 : decode cX6_gates 42 = .ok (.iload_n 1, 1) := by decide +kernel
theorem dX6_gates_43 : decode cX6_gates 43 = .ok (.ireturn, 1) := by decide +kernel
theorem dX6_firstGate_0 : decode cX6_firstGate 0 = .ok (.iconst (-1), 1) := by decide +kernel
theorem dX6_firstGate_1 : decode cX6_firstGate 1 = .ok (.istore_n 1, 1) := by decide +kernel
theorem dX6_firstGate_2 : decode cX6_firstGate 2 = .ok (.aload_n 0, 1) := by decide +kernel
theorem dX6_firstGate_3 : decode cX6_firstGate 3 = .ok (.getfield 78, 3) := by decide +kernel
theorem dX6_firstGate_6 : decode cX6_firstGate 6 = .ok (.iconst 1, 1) := by decide +kernel
theorem dX6_firstGate_7 : decode cX6_firstGate 7 = .ok (.isub, 1) := by decide +kernel
theorem dX6_firstGate_8 : decode cX6_firstGate 8 = .ok (.istore_n 2, 1) := by decide +kernel
theorem dX6_firstGate_9 : decode cX6_firstGate 9 = .ok (.iload_n 2, 1) := by decide +kernel
theorem dX6_firstGate_10 : decode cX6_firstGate 10 = .ok (.ifCond .lt 31, 3) := by decide +kernel
theorem dX6_firstGate_13 : decode cX6_firstGate 13 = .ok (.aload_n 0, 1) := by decide +kernel
theorem dX6_firstGate_14 : decode cX6_firstGate 14 = .ok (.getfield 78, 3) := by decide +kernel
theorem dX6_firstGate_17 : decode cX6_firstGate 17 = .ok (.iconst 1, 1) := by decide +kernel
theorem dX6_firstGate_18 : decode cX6_firstGate 18 = .ok (.if_icmp .le 23, 3) := by decide +kernel
theorem dX6_firstGate_21 : decode cX6_firstGate 21 = .ok (.aload_n 0, 1) := by decide +kernel
theorem dX6_firstGate_22 : decode cX6_firstGate 22 = .ok (.iload_n 2, 1) := by decide +kernel
theorem dX6_firstGate_23 : decode cX6_firstGate 23 = .ok (.invokevirtual 125, 3) := by decide +kernel
theorem dX6_firstGate_26 : decode cX6_firstGate 26 = .ok (.ifCond .ne 7, 3) := by decide +kernel
theorem dX6_firstGate_29 : decode cX6_firstGate 29 = .ok (.iload_n 2, 1) := by decide +kernel
theorem dX6_firstGate_30 : decode cX6_firstGate 30 = .ok (.goto 4, 3) := by decide +kernel
theorem dX6_firstGate_33 : decode cX6_firstGate 33 = .ok (.iload_n 1, 1) := by decide +kernel
theorem dX6_firstGate_34 : decode cX6_firstGate 34 = .ok (.istore_n 1, 1) := by decide +kernel
theorem dX6_firstGate_35 : decode cX6_firstGate 35 = .ok (.iinc 2 (-1), 3) := by decide +kernel
theorem dX6_firstGate_38 : decode cX6_firstGate 38 = .ok (.goto (-29), 3) := by decide +kernel
theorem dX6_firstGate_41 : decode cX6_firstGate 41 = .ok (.iload_n 1, 1) := by decide +kernel
theorem dX6_firstGate_42 : decode cX6_firstGate 42 = .ok (.ireturn, 1) := by decide +kernel
theorem dX6_wall_0 : decode cX6_wall 0 = .ok (.iload_n 1, 1) := by decide +kernel
theorem dX6_wall_1 : decode cX6_wall 1 = .ok (.i2l, 1) := by decide +kernel
theorem dX6_wall_2 : decode cX6_wall 2 = .ok (.lconst 0, 1) := by decide +kernel
theorem dX6_wall_3 : decode cX6_wall 3 = .ok (.ldc2_w 84, 3) := by decide +kernel
theorem dX6_wall_6 : decode cX6_wall 6 = .ok (.invokestatic 70, 3) := by decide +kernel
theorem dX6_wall_9 : decode cX6_wall 9 = .ok (.ifCond .ne 6, 3) := by decide +kernel
theorem dX6_wall_12 : decode cX6_wall 12 = .ok (.bipush (-2), 2) := by decide +kernel
theorem dX6_wall_14 : decode cX6_wall 14 = .ok (.ireturn, 1) := by decide +kernel
theorem dX6_wall_15 : decode cX6_wall 15 = .ok (.iload_n 1, 1) := by decide +kernel
theorem dX6_wall_16 : decode cX6_wall 16 = .ok (.ifCond .ne 10, 3) := by decide +kernel
theorem dX6_wall_19 : decode cX6_wall 19 = .ok (.aload_n 0, 1) := by decide +kernel
theorem dX6_wall_20 : decode cX6_wall 20 = .ok (.invokevirtual 262, 3) := by decide +kernel
theorem dX6_wall_23 : decode cX6_wall 23 = .ok (.goto 31, 3) := by decide +kernel
theorem dX6_wall_26 : decode cX6_wall 26 = .ok (.iload_n 1, 1) := by decide +kernel
theorem dX6_wall_27 : decode cX6_wall 27 = .ok (.iconst 1, 1) := by decide +kernel
theorem dX6_wall_28 : decode cX6_wall 28 = .ok (.if_icmp .ne 10, 3) := by decide +kernel
theorem dX6_wall_31 : decode cX6_wall 31 = .ok (.aload_n 0, 1) := by decide +kernel
theorem dX6_wall_32 : decode cX6_wall 32 = .ok (.invokevirtual 265, 3) := by decide +kernel
theorem dX6_wall_35 : decode cX6_wall 35 = .ok (.goto 19, 3) := by decide +kernel
theorem dX6_wall_38 : decode cX6_wall 38 = .ok (.iload_n 1, 1) := by decide +kernel
theorem dX6_wall_39 : decode cX6_wall 39 = .ok (.iconst 2, 1) := by decide +kernel
theorem dX6_wall_40 : decode cX6_wall 40 = .ok (.if_icmp .ne 10, 3) := by decide +kernel
theorem dX6_wall_43 : decode cX6_wall 43 = .ok (.aload_n 0, 1) := by decide +kernel
theorem dX6_wall_44 : decode cX6_wall 44 = .ok (.invokevirtual 268, 3) := by decide +kernel
theorem dX6_wall_47 : decode cX6_wall 47 = .ok (.goto 7, 3) := by decide +kernel
theorem dX6_wall_50 : decode cX6_wall 50 = .ok (.aload_n 0, 1) := by decide +kernel
theorem dX6_wall_51 : decode cX6_wall 51 = .ok (.getfield 78, 3) := by decide +kernel
theorem dX6_wall_54 : decode cX6_wall 54 = .ok (.ireturn, 1) := by decide +kernel
theorem dX6_closesUp_0 : decode cX6_closesUp 0 = .ok (.aload_n 0, 1) := by decide +kernel
theorem dX6_closesUp_1 : decode cX6_closesUp 1 = .ok (.dup, 1) := by decide +kernel
theorem dX6_closesUp_2 : decode cX6_closesUp 2 = .ok (.getfield 78, 3) := by decide +kernel
theorem dX6_closesUp_5 : decode cX6_closesUp 5 = .ok (.iconst 1, 1) := by decide +kernel
theorem dX6_closesUp_6 : decode cX6_closesUp 6 = .ok (.isub, 1) := by decide +kernel
theorem dX6_closesUp_7 : decode cX6_closesUp 7 = .ok (.putfield 78, 3) := by decide +kernel
theorem dX6_closesUp_10 : decode cX6_closesUp 10 = .ok (.iload_n 1, 1) := by decide +kernel
theorem dX6_closesUp_11 : decode cX6_closesUp 11 = .ok (.istore_n 2, 1) := by decide +kernel
theorem dX6_closesUp_12 : decode cX6_closesUp 12 = .ok (.iload_n 2, 1) := by decide +kernel
theorem dX6_closesUp_13 : decode cX6_closesUp 13 = .ok (.aload_n 0, 1) := by decide +kernel
theorem dX6_closesUp_14 : decode cX6_closesUp 14 = .ok (.getfield 78, 3) := by decide +kernel
theorem dX6_closesUp_17 : decode cX6_closesUp 17 = .ok (.if_icmp .ge 23, 3) := by decide +kernel
theorem dX6_closesUp_20 : decode cX6_closesUp 20 = .ok (.aload_n 0, 1) := by decide +kernel
theorem dX6_closesUp_21 : decode cX6_closesUp 21 = .ok (.getfield 26, 3) := by decide +kernel
theorem dX6_closesUp_24 : decode cX6_closesUp 24 = .ok (.iload_n 2, 1) := by decide +kernel
theorem dX6_closesUp_25 : decode cX6_closesUp 25 = .ok (.aload_n 0, 1) := by decide +kernel
theorem dX6_closesUp_26 : decode cX6_closesUp 26 = .ok (.getfield 26, 3) := by decide +kernel
theorem dX6_closesUp_29 : decode cX6_closesUp 29 = .ok (.iload_n 2, 1) := by decide +kernel
theorem dX6_closesUp_30 : decode cX6_closesUp 30 = .ok (.iconst 1, 1) := by decide +kernel
theorem dX6_closesUp_31 : decode cX6_closesUp 31 = .ok (.iadd, 1) := by decide +kernel
theorem dX6_closesUp_32 : decode cX6_closesUp 32 = .ok (.iaload, 1) := by decide +kernel
theorem dX6_closesUp_33 : decode cX6_closesUp 33 = .ok (.iastore, 1) := by decide +kernel
theorem dX6_closesUp_34 : decode cX6_closesUp 34 = .ok (.iinc 2 1, 3) := by decide +kernel
theorem dX6_closesUp_37 : decode cX6_closesUp 37 = .ok (.goto (-25), 3) := by decide +kernel
theorem dX6_closesUp_40 : decode cX6_closesUp 40 = .ok (.return_, 1) := by decide +kernel
theorem dX6_stands_0 : decode cX6_stands 0 = .ok (.aload_n 0, 1) := by decide +kernel
theorem dX6_stands_1 : decode cX6_stands 1 = .ok (.getfield 78, 3) := by decide +kernel
theorem dX6_stands_4 : decode cX6_stands 4 = .ok (.istore_n 3, 1) := by decide +kernel
theorem dX6_stands_5 : decode cX6_stands 5 = .ok (.iload_n 3, 1) := by decide +kernel
theorem dX6_stands_6 : decode cX6_stands 6 = .ok (.iload_n 2, 1) := by decide +kernel
theorem dX6_stands_7 : decode cX6_stands 7 = .ok (.if_icmp .le 23, 3) := by decide +kernel
theorem dX6_stands_10 : decode cX6_stands 10 = .ok (.aload_n 0, 1) := by decide +kernel
theorem dX6_stands_11 : decode cX6_stands 11 = .ok (.getfield 26, 3) := by decide +kernel
theorem dX6_stands_14 : decode cX6_stands 14 = .ok (.iload_n 3, 1) := by decide +kernel
theorem dX6_stands_15 : decode cX6_stands 15 = .ok (.aload_n 0, 1) := by decide +kernel
theorem dX6_stands_16 : decode cX6_stands 16 = .ok (.getfield 26, 3) := by decide +kernel
theorem dX6_stands_19 : decode cX6_stands 19 = .ok (.iload_n 3, 1) := by decide +kernel
theorem dX6_stands_20 : decode cX6_stands 20 = .ok (.iconst 1, 1) := by decide +kernel
theorem dX6_stands_21 : decode cX6_stands 21 = .ok (.isub, 1) := by decide +kernel
theorem dX6_stands_22 : decode cX6_stands 22 = .ok (.iaload, 1) := by decide +kernel
theorem dX6_stands_23 : decode cX6_stands 23 = .ok (.iastore, 1) := by decide +kernel
theorem dX6_stands_24 : decode cX6_stands 24 = .ok (.iinc 3 (-1), 3) := by decide +kernel
theorem dX6_stands_27 : decode cX6_stands 27 = .ok (.goto (-22), 3) := by decide +kernel
theorem dX6_stands_30 : decode cX6_stands 30 = .ok (.aload_n 0, 1) := by decide +kernel
theorem dX6_stands_31 : decode cX6_stands 31 = .ok (.getfield 26, 3) := by decide +kernel
theorem dX6_stands_34 : decode cX6_stands 34 = .ok (.iload_n 2, 1) := by decide +kernel
theorem dX6_stands_35 : decode cX6_stands 35 = .ok (.iload_n 1, 1) := by decide +kernel
theorem dX6_stands_36 : decode cX6_stands 36 = .ok (.iastore, 1) := by decide +kernel
theorem dX6_stands_37 : decode cX6_stands 37 = .ok (.aload_n 0, 1) := by decide +kernel
theorem dX6_stands_38 : decode cX6_stands 38 = .ok (.dup, 1) := by decide +kernel
theorem dX6_stands_39 : decode cX6_stands 39 = .ok (.getfield 78, 3) := by decide +kernel
theorem dX6_stands_42 : decode cX6_stands 42 = .ok (.iconst 1, 1) := by decide +kernel
theorem dX6_stands_43 : decode cX6_stands 43 = .ok (.iadd, 1) := by decide +kernel
theorem dX6_stands_44 : decode cX6_stands 44 = .ok (.putfield 78, 3) := by decide +kernel
theorem dX6_stands_47 : decode cX6_stands 47 = .ok (.return_, 1) := by decide +kernel
theorem dX6_out_0 : decode cX6_out 0 = .ok (.aload_n 0, 1) := by decide +kernel
theorem dX6_out_1 : decode cX6_out 1 = .ok (.iload_n 1, 1) := by decide +kernel
theorem dX6_out_2 : decode cX6_out 2 = .ok (.invokevirtual 74, 3) := by decide +kernel
theorem dX6_out_5 : decode cX6_out 5 = .ok (.ifCond .ne 6, 3) := by decide +kernel
theorem dX6_out_8 : decode cX6_out 8 = .ok (.bipush (-2), 2) := by decide +kernel
theorem dX6_out_10 : decode cX6_out 10 = .ok (.ireturn, 1) := by decide +kernel
theorem dX6_out_11 : decode cX6_out 11 = .ok (.aload_n 0, 1) := by decide +kernel
theorem dX6_out_12 : decode cX6_out 12 = .ok (.iload_n 1, 1) := by decide +kernel
theorem dX6_out_13 : decode cX6_out 13 = .ok (.invokevirtual 119, 3) := by decide +kernel
theorem dX6_out_16 : decode cX6_out 16 = .ok (.istore_n 2, 1) := by decide +kernel
theorem dX6_out_17 : decode cX6_out 17 = .ok (.iload_n 2, 1) := by decide +kernel
theorem dX6_out_18 : decode cX6_out 18 = .ok (.iconst (-1), 1) := by decide +kernel
theorem dX6_out_19 : decode cX6_out 19 = .ok (.if_icmp .ne 6, 3) := by decide +kernel
theorem dX6_out_22 : decode cX6_out 22 = .ok (.bipush (-3), 2) := by decide +kernel
theorem dX6_out_24 : decode cX6_out 24 = .ok (.ireturn, 1) := by decide +kernel
theorem dX6_out_25 : decode cX6_out 25 = .ok (.aload_n 0, 1) := by decide +kernel
theorem dX6_out_26 : decode cX6_out 26 = .ok (.iload_n 2, 1) := by decide +kernel
theorem dX6_out_27 : decode cX6_out 27 = .ok (.invokevirtual 271, 3) := by decide +kernel
theorem dX6_out_30 : decode cX6_out 30 = .ok (.iload_n 2, 1) := by decide +kernel
theorem dX6_out_31 : decode cX6_out 31 = .ok (.ireturn, 1) := by decide +kernel
theorem dX6_into_0 : decode cX6_into 0 = .ok (.aload_n 0, 1) := by decide +kernel
theorem dX6_into_1 : decode cX6_into 1 = .ok (.iload_n 1, 1) := by decide +kernel
theorem dX6_into_2 : decode cX6_into 2 = .ok (.invokevirtual 74, 3) := by decide +kernel
theorem dX6_into_5 : decode cX6_into 5 = .ok (.ifCond .eq 17, 3) := by decide +kernel
theorem dX6_into_8 : decode cX6_into 8 = .ok (.iload_n 2, 1) := by decide +kernel
theorem dX6_into_9 : decode cX6_into 9 = .ok (.i2l, 1) := by decide +kernel
theorem dX6_into_10 : decode cX6_into 10 = .ok (.lconst 0, 1) := by decide +kernel
theorem dX6_into_11 : decode cX6_into 11 = .ok (.aload_n 0, 1) := by decide +kernel
theorem dX6_into_12 : decode cX6_into 12 = .ok (.getfield 78, 3) := by decide +kernel
theorem dX6_into_15 : decode cX6_into 15 = .ok (.i2l, 1) := by decide +kernel
theorem dX6_into_16 : decode cX6_into 16 = .ok (.invokestatic 70, 3) := by decide +kernel
theorem dX6_into_19 : decode cX6_into 19 = .ok (.ifCond .ne 6, 3) := by decide +kernel
theorem dX6_into_22 : decode cX6_into 22 = .ok (.bipush (-2), 2) := by decide +kernel
theorem dX6_into_24 : decode cX6_into 24 = .ok (.ireturn, 1) := by decide +kernel
theorem dX6_into_25 : decode cX6_into 25 = .ok (.aload_n 0, 1) := by decide +kernel
theorem dX6_into_26 : decode cX6_into 26 = .ok (.iload_n 1, 1) := by decide +kernel
theorem dX6_into_27 : decode cX6_into 27 = .ok (.invokevirtual 119, 3) := by decide +kernel
theorem dX6_into_30 : decode cX6_into 30 = .ok (.iconst (-1), 1) := by decide +kernel
theorem dX6_into_31 : decode cX6_into 31 = .ok (.if_icmp .eq 6, 3) := by decide +kernel
theorem dX6_into_34 : decode cX6_into 34 = .ok (.bipush (-3), 2) := by decide +kernel
theorem dX6_into_36 : decode cX6_into 36 = .ok (.ireturn, 1) := by decide +kernel
theorem dX6_into_37 : decode cX6_into 37 = .ok (.aload_n 0, 1) := by decide +kernel
theorem dX6_into_38 : decode cX6_into 38 = .ok (.iload_n 1, 1) := by decide +kernel
theorem dX6_into_39 : decode cX6_into 39 = .ok (.iload_n 2, 1) := by decide +kernel
theorem dX6_into_40 : decode cX6_into 40 = .ok (.invokevirtual 275, 3) := by decide +kernel
theorem dX6_into_43 : decode cX6_into 43 = .ok (.aload_n 0, 1) := by decide +kernel
theorem dX6_into_44 : decode cX6_into 44 = .ok (.getfield 78, 3) := by decide +kernel
theorem dX6_into_47 : decode cX6_into 47 = .ok (.ireturn, 1) := by decide +kernel
theorem dX6_change_0 : decode cX6_change 0 = .ok (.aload_n 0, 1) := by decide +kernel
theorem dX6_change_1 : decode cX6_change 1 = .ok (.getfield 26, 3) := by decide +kernel
theorem dX6_change_4 : decode cX6_change 4 = .ok (.iload_n 1, 1) := by decide +kernel
theorem dX6_change_5 : decode cX6_change 5 = .ok (.iaload, 1) := by decide +kernel
theorem dX6_change_6 : decode cX6_change 6 = .ok (.istore_n 3, 1) := by decide +kernel
theorem dX6_change_7 : decode cX6_change 7 = .ok (.aload_n 0, 1) := by decide +kernel
theorem dX6_change_8 : decode cX6_change 8 = .ok (.getfield 26, 3) := by decide +kernel
theorem dX6_change_11 : decode cX6_change 11 = .ok (.iload_n 1, 1) := by decide +kernel
theorem dX6_change_12 : decode cX6_change 12 = .ok (.aload_n 0, 1) := by decide +kernel
theorem dX6_change_13 : decode cX6_change 13 = .ok (.getfield 26, 3) := by decide +kernel
theorem dX6_change_16 : decode cX6_change 16 = .ok (.iload_n 2, 1) := by decide +kernel
theorem dX6_change_17 : decode cX6_change 17 = .ok (.iaload, 1) := by decide +kernel
theorem dX6_change_18 : decode cX6_change 18 = .ok (.iastore, 1) := by decide +kernel
theorem dX6_change_19 : decode cX6_change 19 = .ok (.aload_n 0, 1) := by decide +kernel
theorem dX6_change_20 : decode cX6_change 20 = .ok (.getfield 26, 3) := by decide +kernel
theorem dX6_change_23 : decode cX6_change 23 = .ok (.iload_n 2, 1) := by decide +kernel
theorem dX6_change_24 : decode cX6_change 24 = .ok (.iload_n 3, 1) := by decide +kernel
theorem dX6_change_25 : decode cX6_change 25 = .ok (.iastore, 1) := by decide +kernel
theorem dX6_change_26 : decode cX6_change 26 = .ok (.return_, 1) := by decide +kernel
theorem dX6_swap_0 : decode cX6_swap 0 = .ok (.aload_n 0, 1) := by decide +kernel
theorem dX6_swap_1 : decode cX6_swap 1 = .ok (.iload_n 1, 1) := by decide +kernel
theorem dX6_swap_2 : decode cX6_swap 2 = .ok (.iload_n 2, 1) := by decide +kernel
theorem dX6_swap_3 : decode cX6_swap 3 = .ok (.invokevirtual 253, 3) := by decide +kernel
theorem dX6_swap_6 : decode cX6_swap 6 = .ok (.ifCond .eq 21, 3) := by decide +kernel
theorem dX6_swap_9 : decode cX6_swap 9 = .ok (.aload_n 0, 1) := by decide +kernel
theorem dX6_swap_10 : decode cX6_swap 10 = .ok (.iload_n 1, 1) := by decide +kernel
theorem dX6_swap_11 : decode cX6_swap 11 = .ok (.invokevirtual 119, 3) := by decide +kernel
theorem dX6_swap_14 : decode cX6_swap 14 = .ok (.iconst (-1), 1) := by decide +kernel
theorem dX6_swap_15 : decode cX6_swap 15 = .ok (.if_icmp .eq 12, 3) := by decide +kernel
theorem dX6_swap_18 : decode cX6_swap 18 = .ok (.aload_n 0, 1) := by decide +kernel
theorem dX6_swap_19 : decode cX6_swap 19 = .ok (.iload_n 2, 1) := by decide +kernel
theorem dX6_swap_20 : decode cX6_swap 20 = .ok (.invokevirtual 119, 3) := by decide +kernel
theorem dX6_swap_23 : decode cX6_swap 23 = .ok (.iconst (-1), 1) := by decide +kernel
theorem dX6_swap_24 : decode cX6_swap 24 = .ok (.if_icmp .ne 6, 3) := by decide +kernel
theorem dX6_swap_27 : decode cX6_swap 27 = .ok (.bipush (-2), 2) := by decide +kernel
theorem dX6_swap_29 : decode cX6_swap 29 = .ok (.ireturn, 1) := by decide +kernel
theorem dX6_swap_30 : decode cX6_swap 30 = .ok (.aload_n 0, 1) := by decide +kernel
theorem dX6_swap_31 : decode cX6_swap 31 = .ok (.aload_n 0, 1) := by decide +kernel
theorem dX6_swap_32 : decode cX6_swap 32 = .ok (.iload_n 1, 1) := by decide +kernel
theorem dX6_swap_33 : decode cX6_swap 33 = .ok (.invokevirtual 119, 3) := by decide +kernel
theorem dX6_swap_36 : decode cX6_swap 36 = .ok (.aload_n 0, 1) := by decide +kernel
theorem dX6_swap_37 : decode cX6_swap 37 = .ok (.iload_n 2, 1) := by decide +kernel
theorem dX6_swap_38 : decode cX6_swap 38 = .ok (.invokevirtual 119, 3) := by decide +kernel
theorem dX6_swap_41 : decode cX6_swap 41 = .ok (.invokevirtual 279, 3) := by decide +kernel
theorem dX6_swap_44 : decode cX6_swap 44 = .ok (.aload_n 0, 1) := by decide +kernel
theorem dX6_swap_45 : decode cX6_swap 45 = .ok (.invokevirtual 262, 3) := by decide +kernel
theorem dX6_swap_48 : decode cX6_swap 48 = .ok (.ireturn, 1) := by decide +kernel
theorem dX6_passes_0 : decode cX6_passes 0 = .ok (.iconst 0, 1) := by decide +kernel
theorem dX6_passes_1 : decode cX6_passes 1 = .ok (.istore_n 1, 1) := by decide +kernel
theorem dX6_passes_2 : decode cX6_passes 2 = .ok (.iload_n 1, 1) := by decide +kernel
theorem dX6_passes_3 : decode cX6_passes 3 = .ok (.aload_n 0, 1) := by decide +kernel
theorem dX6_passes_4 : decode cX6_passes 4 = .ok (.getfield 78, 3) := by decide +kernel
theorem dX6_passes_7 : decode cX6_passes 7 = .ok (.if_icmp .ge 25, 3) := by decide +kernel
theorem dX6_passes_10 : decode cX6_passes 10 = .ok (.aload_n 0, 1) := by decide +kernel
theorem dX6_passes_11 : decode cX6_passes 11 = .ok (.getfield 29, 3) := by decide +kernel
theorem dX6_passes_14 : decode cX6_passes 14 = .ok (.iload_n 1, 1) := by decide +kernel
theorem dX6_passes_15 : decode cX6_passes 15 = .ok (.aload_n 0, 1) := by decide +kernel
theorem dX6_passes_16 : decode cX6_passes 16 = .ok (.aload_n 0, 1) := by decide +kernel
theorem dX6_passes_17 : decode cX6_passes 17 = .ok (.getfield 26, 3) := by decide +kernel
theorem dX6_passes_20 : decode cX6_passes 20 = .ok (.iload_n 1, 1) := by decide +kernel
theorem dX6_passes_21 : decode cX6_passes 21 = .ok (.iaload, 1) := by decide +kernel
theorem dX6_passes_22 : decode cX6_passes 22 = .ok (.invokevirtual 122, 3) := by decide +kernel
theorem dX6_passes_25 : decode cX6_passes 25 = .ok (.iastore, 1) := by decide +kernel
theorem dX6_passes_26 : decode cX6_passes 26 = .ok (.iinc 1 1, 3) := by decide +kernel
theorem dX6_passes_29 : decode cX6_passes 29 = .ok (.goto (-27), 3) := by decide +kernel
theorem dX6_passes_32 : decode cX6_passes 32 = .ok (.iconst 0, 1) := by decide +kernel
theorem dX6_passes_33 : decode cX6_passes 33 = .ok (.istore_n 1, 1) := by decide +kernel
theorem dX6_passes_34 : decode cX6_passes 34 = .ok (.iload_n 1, 1) := by decide +kernel
theorem dX6_passes_35 : decode cX6_passes 35 = .ok (.aload_n 0, 1) := by decide +kernel
theorem dX6_passes_36 : decode cX6_passes 36 = .ok (.getfield 78, 3) := by decide +kernel
theorem dX6_passes_39 : decode cX6_passes 39 = .ok (.if_icmp .ge 45, 3) := by decide +kernel
theorem dX6_passes_42 : decode cX6_passes 42 = .ok (.iconst 3, 1) := by decide +kernel
theorem dX6_passes_43 : decode cX6_passes 43 = .ok (.aload_n 0, 1) := by decide +kernel
theorem dX6_passes_44 : decode cX6_passes 44 = .ok (.getfield 26, 3) := by decide +kernel
theorem dX6_passes_47 : decode cX6_passes 47 = .ok (.iload_n 1, 1) := by decide +kernel
theorem dX6_passes_48 : decode cX6_passes 48 = .ok (.iaload, 1) := by decide +kernel
theorem dX6_passes_49 : decode cX6_passes 49 = .ok (.imul, 1) := by decide +kernel
theorem dX6_passes_50 : decode cX6_passes 50 = .ok (.iconst 1, 1) := by decide +kernel
theorem dX6_passes_51 : decode cX6_passes 51 = .ok (.iadd, 1) := by decide +kernel
theorem dX6_passes_52 : decode cX6_passes 52 = .ok (.istore_n 2, 1) := by decide +kernel
theorem dX6_passes_53 : decode cX6_passes 53 = .ok (.aload_n 0, 1) := by decide +kernel
theorem dX6_passes_54 : decode cX6_passes 54 = .ok (.getfield 23, 3) := by decide +kernel
theorem dX6_passes_57 : decode cX6_passes 57 = .ok (.iload_n 2, 1) := by decide +kernel
theorem dX6_passes_58 : decode cX6_passes 58 = .ok (.aload_n 0, 1) := by decide +kernel
theorem dX6_passes_59 : decode cX6_passes 59 = .ok (.getfield 23, 3) := by decide +kernel
theorem dX6_passes_62 : decode cX6_passes 62 = .ok (.iload_n 2, 1) := by decide +kernel
theorem dX6_passes_63 : decode cX6_passes 63 = .ok (.iaload, 1) := by decide +kernel
theorem dX6_passes_64 : decode cX6_passes 64 = .ok (.aload_n 0, 1) := by decide +kernel
theorem dX6_passes_65 : decode cX6_passes 65 = .ok (.getfield 29, 3) := by decide +kernel
theorem dX6_passes_68 : decode cX6_passes 68 = .ok (.iload_n 1, 1) := by decide +kernel
theorem dX6_passes_69 : decode cX6_passes 69 = .ok (.iaload, 1) := by decide +kernel
theorem dX6_passes_70 : decode cX6_passes 70 = .ok (.isub, 1) := by decide +kernel
theorem dX6_passes_71 : decode cX6_passes 71 = .ok (.iconst 0, 1) := by decide +kernel
theorem dX6_passes_72 : decode cX6_passes 72 = .ok (.bipush 99, 2) := by decide +kernel
theorem dX6_passes_74 : decode cX6_passes 74 = .ok (.invokestatic 246, 3) := by decide +kernel
theorem dX6_passes_77 : decode cX6_passes 77 = .ok (.iastore, 1) := by decide +kernel
theorem dX6_passes_78 : decode cX6_passes 78 = .ok (.iinc 1 1, 3) := by decide +kernel
theorem dX6_passes_81 : decode cX6_passes 81 = .ok (.goto (-47), 3) := by decide +kernel
theorem dX6_passes_84 : decode cX6_passes 84 = .ok (.aload_n 0, 1) := by decide +kernel
theorem dX6_passes_85 : decode cX6_passes 85 = .ok (.dup, 1) := by decide +kernel
theorem dX6_passes_86 : decode cX6_passes 86 = .ok (.getfield 102, 3) := by decide +kernel
theorem dX6_passes_89 : decode cX6_passes 89 = .ok (.iconst 1, 1) := by decide +kernel
theorem dX6_passes_90 : decode cX6_passes 90 = .ok (.iadd, 1) := by decide +kernel
theorem dX6_passes_91 : decode cX6_passes 91 = .ok (.putfield 102, 3) := by decide +kernel
theorem dX6_passes_94 : decode cX6_passes 94 = .ok (.return_, 1) := by decide +kernel
theorem dX6_hour_0 : decode cX6_hour 0 = .ok (.aload_n 0, 1) := by decide +kernel
theorem dX6_hour_1 : decode cX6_hour 1 = .ok (.getfield 102, 3) := by decide +kernel
theorem dX6_hour_4 : decode cX6_hour 4 = .ok (.sipush 999, 3) := by decide +kernel
theorem dX6_hour_7 : decode cX6_hour 7 = .ok (.if_icmp .ne 6, 3) := by decide +kernel
theorem dX6_hour_10 : decode cX6_hour 10 = .ok (.bipush (-3), 2) := by decide +kernel
theorem dX6_hour_12 : decode cX6_hour 12 = .ok (.ireturn, 1) := by decide +kernel
theorem dX6_hour_13 : decode cX6_hour 13 = .ok (.aload_n 0, 1) := by decide +kernel
theorem dX6_hour_14 : decode cX6_hour 14 = .ok (.invokevirtual 282, 3) := by decide +kernel
theorem dX6_hour_17 : decode cX6_hour 17 = .ok (.aload_n 0, 1) := by decide +kernel
theorem dX6_hour_18 : decode cX6_hour 18 = .ok (.invokevirtual 262, 3) := by decide +kernel
theorem dX6_hour_21 : decode cX6_hour 21 = .ok (.ireturn, 1) := by decide +kernel
theorem dX6_sneeze_0 : decode cX6_sneeze 0 = .ok (.aload_n 0, 1) := by decide +kernel
theorem dX6_sneeze_1 : decode cX6_sneeze 1 = .ok (.iload_n 1, 1) := by decide +kernel
theorem dX6_sneeze_2 : decode cX6_sneeze 2 = .ok (.invokevirtual 74, 3) := by decide +kernel
theorem dX6_sneeze_5 : decode cX6_sneeze 5 = .ok (.ifCond .eq 36, 3) := by decide +kernel
theorem dX6_sneeze_8 : decode cX6_sneeze 8 = .ok (.aload_n 0, 1) := by decide +kernel
theorem dX6_sneeze_9 : decode cX6_sneeze 9 = .ok (.iload_n 1, 1) := by decide +kernel
theorem dX6_sneeze_10 : decode cX6_sneeze 10 = .ok (.invokevirtual 119, 3) := by decide +kernel
theorem dX6_sneeze_13 : decode cX6_sneeze 13 = .ok (.iconst (-1), 1) := by decide +kernel
theorem dX6_sneeze_14 : decode cX6_sneeze 14 = .ok (.if_icmp .eq 27, 3) := by decide +kernel
theorem dX6_sneeze_17 : decode cX6_sneeze 17 = .ok (.iload_n 2, 1) := by decide +kernel
theorem dX6_sneeze_18 : decode cX6_sneeze 18 = .ok (.i2l, 1) := by decide +kernel
theorem dX6_sneeze_19 : decode cX6_sneeze 19 = .ok (.lconst 0, 1) := by decide +kernel
theorem dX6_sneeze_20 : decode cX6_sneeze 20 = .ok (.ldc2_w 115, 3) := by decide +kernel
theorem dX6_sneeze_23 : decode cX6_sneeze 23 = .ok (.invokestatic 70, 3) := by decide +kernel
theorem dX6_sneeze_26 : decode cX6_sneeze 26 = .ok (.ifCond .eq 15, 3) := by decide +kernel
theorem dX6_sneeze_29 : decode cX6_sneeze 29 = .ok (.iload_n 3, 1) := by decide +kernel
theorem dX6_sneeze_30 : decode cX6_sneeze 30 = .ok (.i2l, 1) := by decide +kernel
theorem dX6_sneeze_31 : decode cX6_sneeze 31 = .ok (.lconst 0, 1) := by decide +kernel
theorem dX6_sneeze_32 : decode cX6_sneeze 32 = .ok (.ldc2_w 285, 3) := by decide +kernel
theorem dX6_sneeze_35 : decode cX6_sneeze 35 = .ok (.invokestatic 70, 3) := by decide +kernel
theorem dX6_sneeze_38 : decode cX6_sneeze 38 = .ok (.ifCond .ne 6, 3) := by decide +kernel
theorem dX6_sneeze_41 : decode cX6_sneeze 41 = .ok (.bipush (-2), 2) := by decide +kernel
theorem dX6_sneeze_43 : decode cX6_sneeze 43 = .ok (.ireturn, 1) := by decide +kernel
theorem dX6_sneeze_44 : decode cX6_sneeze 44 = .ok (.iconst 0, 1) := by decide +kernel
theorem dX6_sneeze_45 : decode cX6_sneeze 45 = .ok (.istore 4, 2) := by decide +kernel
theorem dX6_sneeze_47 : decode cX6_sneeze 47 = .ok (.iconst (-1), 1) := by decide +kernel
theorem dX6_sneeze_48 : decode cX6_sneeze 48 = .ok (.istore 5, 2) := by decide +kernel
theorem dX6_sneeze_50 : decode cX6_sneeze 50 = .ok (.iconst 0, 1) := by decide +kernel
theorem dX6_sneeze_51 : decode cX6_sneeze 51 = .ok (.istore 6, 2) := by decide +kernel
theorem dX6_sneeze_53 : decode cX6_sneeze 53 = .ok (.aload_n 0, 1) := by decide +kernel
theorem dX6_sneeze_54 : decode cX6_sneeze 54 = .ok (.getfield 78, 3) := by decide +kernel
theorem dX6_sneeze_57 : decode cX6_sneeze 57 = .ok (.iconst 1, 1) := by decide +kernel
theorem dX6_sneeze_58 : decode cX6_sneeze 58 = .ok (.if_icmp .le 7, 3) := by decide +kernel
theorem dX6_sneeze_61 : decode cX6_sneeze 61 = .ok (.iload_n 2, 1) := by decide +kernel
theorem dX6_sneeze_62 : decode cX6_sneeze 62 = .ok (.goto 4, 3) := by decide +kernel
theorem dX6_sneeze_65 : decode cX6_sneeze 65 = .ok (.iconst 0, 1) := by decide +kernel
theorem dX6_sneeze_66 : decode cX6_sneeze 66 = .ok (.istore 7, 2) := by decide +kernel
theorem dX6_sneeze_68 : decode cX6_sneeze 68 = .ok (.aload_n 0, 1) := by decide +kernel
theorem dX6_sneeze_69 : decode cX6_sneeze 69 = .ok (.iload_n 1, 1) := by decide +kernel
theorem dX6_sneeze_70 : decode cX6_sneeze 70 = .ok (.invokevirtual 119, 3) := by decide +kernel
theorem dX6_sneeze_73 : decode cX6_sneeze 73 = .ok (.iconst 1, 1) := by decide +kernel
theorem dX6_sneeze_74 : decode cX6_sneeze 74 = .ok (.iadd, 1) := by decide +kernel
theorem dX6_sneeze_75 : decode cX6_sneeze 75 = .ok (.istore 8, 2) := by decide +kernel
theorem dX6_sneeze_77 : decode cX6_sneeze 77 = .ok (.iload 7, 2) := by decide +kernel
theorem dX6_sneeze_79 : decode cX6_sneeze 79 = .ok (.ifCond .le 47, 3) := by decide +kernel
theorem dX6_sneeze_82 : decode cX6_sneeze 82 = .ok (.iload 4, 2) := by decide +kernel
theorem dX6_sneeze_84 : decode cX6_sneeze 84 = .ok (.bipush 60, 2) := by decide +kernel
theorem dX6_sneeze_86 : decode cX6_sneeze 86 = .ok (.if_icmp .ge 40, 3) := by decide +kernel
theorem dX6_sneeze_89 : decode cX6_sneeze 89 = .ok (.aload_n 0, 1) := by decide +kernel
theorem dX6_sneeze_90 : decode cX6_sneeze 90 = .ok (.getfield 26, 3) := by decide +kernel
theorem dX6_sneeze_93 : decode cX6_sneeze 93 = .ok (.iload 8, 2) := by decide +kernel
theorem dX6_sneeze_95 : decode cX6_sneeze 95 = .ok (.aload_n 0, 1) := by decide +kernel
theorem dX6_sneeze_96 : decode cX6_sneeze 96 = .ok (.getfield 78, 3) := by decide +kernel
theorem dX6_sneeze_99 : decode cX6_sneeze 99 = .ok (.irem, 1) := by decide +kernel
theorem dX6_sneeze_100 : decode cX6_sneeze 100 = .ok (.iaload, 1) := by decide +kernel
theorem dX6_sneeze_101 : decode cX6_sneeze 101 = .ok (.istore 5, 2) := by decide +kernel
theorem dX6_sneeze_103 : decode cX6_sneeze 103 = .ok (.iload 7, 2) := by decide +kernel
theorem dX6_sneeze_105 : decode cX6_sneeze 105 = .ok (.istore 6, 2) := by decide +kernel
theorem dX6_sneeze_107 : decode cX6_sneeze 107 = .ok (.iinc 4 1, 3) := by decide +kernel
theorem dX6_sneeze_110 : decode cX6_sneeze 110 = .ok (.aload_n 0, 1) := by decide +kernel
theorem dX6_sneeze_111 : decode cX6_sneeze 111 = .ok (.iload 5, 2) := by decide +kernel
theorem dX6_sneeze_113 : decode cX6_sneeze 113 = .ok (.iload 7, 2) := by decide +kernel
theorem dX6_sneeze_115 : decode cX6_sneeze 115 = .ok (.invokevirtual 259, 3) := by decide +kernel
theorem dX6_sneeze_118 : decode cX6_sneeze 118 = .ok (.istore 7, 2) := by decide +kernel
theorem dX6_sneeze_120 : decode cX6_sneeze 120 = .ok (.iinc 8 1, 3) := by decide +kernel
theorem dX6_sneeze_123 : decode cX6_sneeze 123 = .ok (.goto (-46), 3) := by decide +kernel
theorem dX6_sneeze_126 : decode cX6_sneeze 126 = .ok (.iload_n 3, 1) := by decide +kernel
theorem dX6_sneeze_127 : decode cX6_sneeze 127 = .ok (.ifCond .ne 8, 3) := by decide +kernel
theorem dX6_sneeze_130 : decode cX6_sneeze 130 = .ok (.iload 4, 2) := by decide +kernel
theorem dX6_sneeze_132 : decode cX6_sneeze 132 = .ok (.goto 15, 3) := by decide +kernel
theorem dX6_sneeze_135 : decode cX6_sneeze 135 = .ok (.iload_n 3, 1) := by decide +kernel
theorem dX6_sneeze_136 : decode cX6_sneeze 136 = .ok (.iconst 1, 1) := by decide +kernel
theorem dX6_sneeze_137 : decode cX6_sneeze 137 = .ok (.if_icmp .ne 8, 3) := by decide +kernel
theorem dX6_sneeze_140 : decode cX6_sneeze 140 = .ok (.iload 5, 2) := by decide +kernel
theorem dX6_sneeze_142 : decode cX6_sneeze 142 = .ok (.goto 5, 3) := by decide +kernel
theorem dX6_sneeze_145 : decode cX6_sneeze 145 = .ok (.iload 6, 2) := by decide +kernel
theorem dX6_sneeze_147 : decode cX6_sneeze 147 = .ok (.ireturn, 1) := by decide +kernel
theorem dX6_laysAside_0 : decode cX6_laysAside 0 = .ok (.iconst 0, 1) := by decide +kernel
theorem dX6_laysAside_1 : decode cX6_laysAside 1 = .ok (.istore_n 1, 1) := by decide +kernel
theorem dX6_laysAside_2 : decode cX6_laysAside 2 = .ok (.iload_n 1, 1) := by decide +kernel
theorem dX6_laysAside_3 : decode cX6_laysAside 3 = .ok (.bipush 18, 2) := by decide +kernel
theorem dX6_laysAside_5 : decode cX6_laysAside 5 = .ok (.if_icmp .ge 21, 3) := by decide +kernel
theorem dX6_laysAside_8 : decode cX6_laysAside 8 = .ok (.aload_n 0, 1) := by decide +kernel
theorem dX6_laysAside_9 : decode cX6_laysAside 9 = .ok (.getfield 32, 3) := by decide +kernel
theorem dX6_laysAside_12 : decode cX6_laysAside 12 = .ok (.iload_n 1, 1) := by decide +kernel
theorem dX6_laysAside_13 : decode cX6_laysAside 13 = .ok (.aload_n 0, 1) := by decide +kernel
theorem dX6_laysAside_14 : decode cX6_laysAside 14 = .ok (.getfield 23, 3) := by decide +kernel
theorem dX6_laysAside_17 : decode cX6_laysAside 17 = .ok (.iload_n 1, 1) := by decide +kernel
theorem dX6_laysAside_18 : decode cX6_laysAside 18 = .ok (.iaload, 1) := by decide +kernel
theorem dX6_laysAside_19 : decode cX6_laysAside 19 = .ok (.iastore, 1) := by decide +kernel
theorem dX6_laysAside_20 : decode cX6_laysAside 20 = .ok (.iinc 1 1, 3) := by decide +kernel
theorem dX6_laysAside_23 : decode cX6_laysAside 23 = .ok (.goto (-21), 3) := by decide +kernel
theorem dX6_laysAside_26 : decode cX6_laysAside 26 = .ok (.aload_n 0, 1) := by decide +kernel
theorem dX6_laysAside_27 : decode cX6_laysAside 27 = .ok (.getfield 32, 3) := by decide +kernel
theorem dX6_laysAside_30 : decode cX6_laysAside 30 = .ok (.bipush 18, 2) := by decide +kernel
theorem dX6_laysAside_32 : decode cX6_laysAside 32 = .ok (.aload_n 0, 1) := by decide +kernel
theorem dX6_laysAside_33 : decode cX6_laysAside 33 = .ok (.getfield 102, 3) := by decide +kernel
theorem dX6_laysAside_36 : decode cX6_laysAside 36 = .ok (.iastore, 1) := by decide +kernel
theorem dX6_laysAside_37 : decode cX6_laysAside 37 = .ok (.return_, 1) := by decide +kernel
theorem dX6_laysBack_0 : decode cX6_laysBack 0 = .ok (.iconst 0, 1) := by decide +kernel
theorem dX6_laysBack_1 : decode cX6_laysBack 1 = .ok (.istore_n 1, 1) := by decide +kernel
theorem dX6_laysBack_2 : decode cX6_laysBack 2 = .ok (.iload_n 1, 1) := by decide +kernel
theorem dX6_laysBack_3 : decode cX6_laysBack 3 = .ok (.bipush 18, 2) := by decide +kernel
theorem dX6_laysBack_5 : decode cX6_laysBack 5 = .ok (.if_icmp .ge 21, 3) := by decide +kernel
theorem dX6_laysBack_8 : decode cX6_laysBack 8 = .ok (.aload_n 0, 1) := by decide +kernel
theorem dX6_laysBack_9 : decode cX6_laysBack 9 = .ok (.getfield 23, 3) := by decide +kernel
theorem dX6_laysBack_12 : decode cX6_laysBack 12 = .ok (.iload_n 1, 1) := by decide +kernel
theorem dX6_laysBack_13 : decode cX6_laysBack 13 = .ok (.aload_n 0, 1) := by decide +kernel
theorem dX6_laysBack_14 : decode cX6_laysBack 14 = .ok (.getfield 32, 3) := by decide +kernel
theorem dX6_laysBack_17 : decode cX6_laysBack 17 = .ok (.iload_n 1, 1) := by decide +kernel
theorem dX6_laysBack_18 : decode cX6_laysBack 18 = .ok (.iaload, 1) := by decide +kernel
theorem dX6_laysBack_19 : decode cX6_laysBack 19 = .ok (.iastore, 1) := by decide +kernel
theorem dX6_laysBack_20 : decode cX6_laysBack 20 = .ok (.iinc 1 1, 3) := by decide +kernel
theorem dX6_laysBack_23 : decode cX6_laysBack 23 = .ok (.goto (-21), 3) := by decide +kernel
theorem dX6_laysBack_26 : decode cX6_laysBack 26 = .ok (.aload_n 0, 1) := by decide +kernel
theorem dX6_laysBack_27 : decode cX6_laysBack 27 = .ok (.aload_n 0, 1) := by decide +kernel
theorem dX6_laysBack_28 : decode cX6_laysBack 28 = .ok (.getfield 32, 3) := by decide +kernel
theorem dX6_laysBack_31 : decode cX6_laysBack 31 = .ok (.bipush 18, 2) := by decide +kernel
theorem dX6_laysBack_33 : decode cX6_laysBack 33 = .ok (.iaload, 1) := by decide +kernel
theorem dX6_laysBack_34 : decode cX6_laysBack 34 = .ok (.putfield 102, 3) := by decide +kernel
theorem dX6_laysBack_37 : decode cX6_laysBack 37 = .ok (.return_, 1) := by decide +kernel
theorem dX6_run_0 : decode cX6_run 0 = .ok (.iload_n 1, 1) := by decide +kernel
theorem dX6_run_1 : decode cX6_run 1 = .ok (.i2l, 1) := by decide +kernel
theorem dX6_run_2 : decode cX6_run 2 = .ok (.lconst 0, 1) := by decide +kernel
theorem dX6_run_3 : decode cX6_run 3 = .ok (.ldc2_w 287, 3) := by decide +kernel
theorem dX6_run_6 : decode cX6_run 6 = .ok (.invokestatic 70, 3) := by decide +kernel
theorem dX6_run_9 : decode cX6_run 9 = .ok (.ifCond .eq 38, 3) := by decide +kernel
theorem dX6_run_12 : decode cX6_run 12 = .ok (.iload_n 2, 1) := by decide +kernel
theorem dX6_run_13 : decode cX6_run 13 = .ok (.i2l, 1) := by decide +kernel
theorem dX6_run_14 : decode cX6_run 14 = .ok (.lconst 0, 1) := by decide +kernel
theorem dX6_run_15 : decode cX6_run 15 = .ok (.lconst 1, 1) := by decide +kernel
theorem dX6_run_16 : decode cX6_run 16 = .ok (.invokestatic 70, 3) := by decide +kernel
theorem dX6_run_19 : decode cX6_run 19 = .ok (.ifCond .ne 32, 3) := by decide +kernel
theorem dX6_run_22 : decode cX6_run 22 = .ok (.iload_n 2, 1) := by decide +kernel
theorem dX6_run_23 : decode cX6_run 23 = .ok (.i2l, 1) := by decide +kernel
theorem dX6_run_24 : decode cX6_run 24 = .ok (.ldc2_w 163, 3) := by decide +kernel
theorem dX6_run_27 : decode cX6_run 27 = .ok (.ldc2_w 289, 3) := by decide +kernel
theorem dX6_run_30 : decode cX6_run 30 = .ok (.invokestatic 70, 3) := by decide +kernel
theorem dX6_run_33 : decode cX6_run 33 = .ok (.ifCond .eq 14, 3) := by decide +kernel
theorem dX6_run_36 : decode cX6_run 36 = .ok (.aload_n 0, 1) := by decide +kernel
theorem dX6_run_37 : decode cX6_run 37 = .ok (.iload_n 2, 1) := by decide +kernel
theorem dX6_run_38 : decode cX6_run 38 = .ok (.bipush 10, 2) := by decide +kernel
theorem dX6_run_40 : decode cX6_run 40 = .ok (.isub, 1) := by decide +kernel
theorem dX6_run_41 : decode cX6_run 41 = .ok (.invokevirtual 74, 3) := by decide +kernel
theorem dX6_run_44 : decode cX6_run 44 = .ok (.ifCond .ne 7, 3) := by decide +kernel
theorem dX6_run_47 : decode cX6_run 47 = .ok (.sipush (-1000), 3) := by decide +kernel
theorem dX6_run_50 : decode cX6_run 50 = .ok (.ireturn, 1) := by decide +kernel
theorem dX6_run_51 : decode cX6_run 51 = .ok (.aload_n 0, 1) := by decide +kernel
theorem dX6_run_52 : decode cX6_run 52 = .ok (.invokevirtual 291, 3) := by decide +kernel
theorem dX6_run_55 : decode cX6_run 55 = .ok (.iconst 0, 1) := by decide +kernel
theorem dX6_run_56 : decode cX6_run 56 = .ok (.istore_n 3, 1) := by decide +kernel
theorem dX6_run_57 : decode cX6_run 57 = .ok (.iload_n 3, 1) := by decide +kernel
theorem dX6_run_58 : decode cX6_run 58 = .ok (.iload_n 1, 1) := by decide +kernel
theorem dX6_run_59 : decode cX6_run 59 = .ok (.if_icmp .ge 13, 3) := by decide +kernel
theorem dX6_run_62 : decode cX6_run 62 = .ok (.aload_n 0, 1) := by decide +kernel
theorem dX6_run_63 : decode cX6_run 63 = .ok (.invokevirtual 282, 3) := by decide +kernel
theorem dX6_run_66 : decode cX6_run 66 = .ok (.iinc 3 1, 3) := by decide +kernel
theorem dX6_run_69 : decode cX6_run 69 = .ok (.goto (-12), 3) := by decide +kernel
theorem dX6_run_72 : decode cX6_run 72 = .ok (.iload_n 2, 1) := by decide +kernel
theorem dX6_run_73 : decode cX6_run 73 = .ok (.ifCond .ne 10, 3) := by decide +kernel
theorem dX6_run_76 : decode cX6_run 76 = .ok (.aload_n 0, 1) := by decide +kernel
theorem dX6_run_77 : decode cX6_run 77 = .ok (.invokevirtual 262, 3) := by decide +kernel
theorem dX6_run_80 : decode cX6_run 80 = .ok (.goto 28, 3) := by decide +kernel
theorem dX6_run_83 : decode cX6_run 83 = .ok (.iload_n 2, 1) := by decide +kernel
theorem dX6_run_84 : decode cX6_run 84 = .ok (.iconst 1, 1) := by decide +kernel
theorem dX6_run_85 : decode cX6_run 85 = .ok (.if_icmp .ne 10, 3) := by decide +kernel
theorem dX6_run_88 : decode cX6_run 88 = .ok (.aload_n 0, 1) := by decide +kernel
theorem dX6_run_89 : decode cX6_run 89 = .ok (.invokevirtual 265, 3) := by decide +kernel
theorem dX6_run_92 : decode cX6_run 92 = .ok (.goto 16, 3) := by decide +kernel
theorem dX6_run_95 : decode cX6_run 95 = .ok (.aload_n 0, 1) := by decide +kernel
theorem dX6_run_96 : decode cX6_run 96 = .ok (.getfield 23, 3) := by decide +kernel
theorem dX6_run_99 : decode cX6_run 99 = .ok (.iconst 3, 1) := by decide +kernel
theorem dX6_run_100 : decode cX6_run 100 = .ok (.iload_n 2, 1) := by decide +kernel
theorem dX6_run_101 : decode cX6_run 101 = .ok (.bipush 10, 2) := by decide +kernel
theorem dX6_run_103 : decode cX6_run 103 = .ok (.isub, 1) := by decide +kernel
theorem dX6_run_104 : decode cX6_run 104 = .ok (.imul, 1) := by decide +kernel
theorem dX6_run_105 : decode cX6_run 105 = .ok (.iconst 1, 1) := by decide +kernel
theorem dX6_run_106 : decode cX6_run 106 = .ok (.iadd, 1) := by decide +kernel
theorem dX6_run_107 : decode cX6_run 107 = .ok (.iaload, 1) := by decide +kernel
theorem dX6_run_108 : decode cX6_run 108 = .ok (.istore_n 3, 1) := by decide +kernel
theorem dX6_run_109 : decode cX6_run 109 = .ok (.aload_n 0, 1) := by decide +kernel
theorem dX6_run_110 : decode cX6_run 110 = .ok (.invokevirtual 294, 3) := by decide +kernel
theorem dX6_run_113 : decode cX6_run 113 = .ok (.iload_n 3, 1) := by decide +kernel
theorem dX6_run_114 : decode cX6_run 114 = .ok (.ireturn, 1) := by decide +kernel
theorem dX6_opens_0 : decode cX6_opens 0 = .ok (.aload_n 0, 1) := by decide +kernel
theorem dX6_opens_1 : decode cX6_opens 1 = .ok (.invokevirtual 291, 3) := by decide +kernel
theorem dX6_opens_4 : decode cX6_opens 4 = .ok (.iconst 0, 1) := by decide +kernel
theorem dX6_opens_5 : decode cX6_opens 5 = .ok (.istore_n 1, 1) := by decide +kernel
theorem dX6_opens_6 : decode cX6_opens 6 = .ok (.iload_n 1, 1) := by decide +kernel
theorem dX6_opens_7 : decode cX6_opens 7 = .ok (.bipush 60, 2) := by decide +kernel
theorem dX6_opens_9 : decode cX6_opens 9 = .ok (.if_icmp .gt 20, 3) := by decide +kernel
theorem dX6_opens_12 : decode cX6_opens 12 = .ok (.aload_n 0, 1) := by decide +kernel
theorem dX6_opens_13 : decode cX6_opens 13 = .ok (.invokevirtual 265, 3) := by decide +kernel
theorem dX6_opens_16 : decode cX6_opens 16 = .ok (.ifCond .ne 13, 3) := by decide +kernel
theorem dX6_opens_19 : decode cX6_opens 19 = .ok (.aload_n 0, 1) := by decide +kernel
theorem dX6_opens_20 : decode cX6_opens 20 = .ok (.invokevirtual 282, 3) := by decide +kernel
theorem dX6_opens_23 : decode cX6_opens 23 = .ok (.iinc 1 1, 3) := by decide +kernel
theorem dX6_opens_26 : decode cX6_opens 26 = .ok (.goto (-20), 3) := by decide +kernel
theorem dX6_opens_29 : decode cX6_opens 29 = .ok (.aload_n 0, 1) := by decide +kernel
theorem dX6_opens_30 : decode cX6_opens 30 = .ok (.invokevirtual 294, 3) := by decide +kernel
theorem dX6_opens_33 : decode cX6_opens 33 = .ok (.iload_n 1, 1) := by decide +kernel
theorem dX6_opens_34 : decode cX6_opens 34 = .ok (.bipush 60, 2) := by decide +kernel
theorem dX6_opens_36 : decode cX6_opens 36 = .ok (.if_icmp .le 7, 3) := by decide +kernel
theorem dX6_opens_39 : decode cX6_opens 39 = .ok (.iconst (-1), 1) := by decide +kernel
theorem dX6_opens_40 : decode cX6_opens 40 = .ok (.goto 4, 3) := by decide +kernel
theorem dX6_opens_43 : decode cX6_opens 43 = .ok (.iload_n 1, 1) := by decide +kernel
theorem dX6_opens_44 : decode cX6_opens 44 = .ok (.ireturn, 1) := by decide +kernel
theorem dX6_digitsOf_0 : decode cX6_digitsOf 0 = .ok (.iconst 0, 1) := by decide +kernel
theorem dX6_digitsOf_1 : decode cX6_digitsOf 1 = .ok (.istore_n 1, 1) := by decide +kernel
theorem dX6_digitsOf_2 : decode cX6_digitsOf 2 = .ok (.iconst 0, 1) := by decide +kernel
theorem dX6_digitsOf_3 : decode cX6_digitsOf 3 = .ok (.istore_n 2, 1) := by decide +kernel
theorem dX6_digitsOf_4 : decode cX6_digitsOf 4 = .ok (.iload_n 2, 1) := by decide +kernel
theorem dX6_digitsOf_5 : decode cX6_digitsOf 5 = .ok (.aload_n 0, 1) := by decide +kernel
theorem dX6_digitsOf_6 : decode cX6_digitsOf 6 = .ok (.getfield 78, 3) := by decide +kernel
theorem dX6_digitsOf_9 : decode cX6_digitsOf 9 = .ok (.if_icmp .ge 23, 3) := by decide +kernel
theorem dX6_digitsOf_12 : decode cX6_digitsOf 12 = .ok (.bipush 10, 2) := by decide +kernel
theorem dX6_digitsOf_14 : decode cX6_digitsOf 14 = .ok (.iload_n 1, 1) := by decide +kernel
theorem dX6_digitsOf_15 : decode cX6_digitsOf 15 = .ok (.imul, 1) := by decide +kernel
theorem dX6_digitsOf_16 : decode cX6_digitsOf 16 = .ok (.aload_n 0, 1) := by decide +kernel
theorem dX6_digitsOf_17 : decode cX6_digitsOf 17 = .ok (.getfield 26, 3) := by decide +kernel
theorem dX6_digitsOf_20 : decode cX6_digitsOf 20 = .ok (.iload_n 2, 1) := by decide +kernel
theorem dX6_digitsOf_21 : decode cX6_digitsOf 21 = .ok (.iaload, 1) := by decide +kernel
theorem dX6_digitsOf_22 : decode cX6_digitsOf 22 = .ok (.iadd, 1) := by decide +kernel
theorem dX6_digitsOf_23 : decode cX6_digitsOf 23 = .ok (.iconst 1, 1) := by decide +kernel
theorem dX6_digitsOf_24 : decode cX6_digitsOf 24 = .ok (.iadd, 1) := by decide +kernel
theorem dX6_digitsOf_25 : decode cX6_digitsOf 25 = .ok (.istore_n 1, 1) := by decide +kernel
theorem dX6_digitsOf_26 : decode cX6_digitsOf 26 = .ok (.iinc 2 1, 3) := by decide +kernel
theorem dX6_digitsOf_29 : decode cX6_digitsOf 29 = .ok (.goto (-25), 3) := by decide +kernel
theorem dX6_digitsOf_32 : decode cX6_digitsOf 32 = .ok (.iload_n 1, 1) := by decide +kernel
theorem dX6_digitsOf_33 : decode cX6_digitsOf 33 = .ok (.ireturn, 1) := by decide +kernel
theorem dX6_orders_0 : decode cX6_orders 0 = .ok (.iload_n 1, 1) := by decide +kernel
theorem dX6_orders_1 : decode cX6_orders 1 = .ok (.aload_n 0, 1) := by decide +kernel
theorem dX6_orders_2 : decode cX6_orders 2 = .ok (.getfield 78, 3) := by decide +kernel
theorem dX6_orders_5 : decode cX6_orders 5 = .ok (.if_icmp .lt 37, 3) := by decide +kernel
theorem dX6_orders_8 : decode cX6_orders 8 = .ok (.aload_n 0, 1) := by decide +kernel
theorem dX6_orders_9 : decode cX6_orders 9 = .ok (.invokevirtual 262, 3) := by decide +kernel
theorem dX6_orders_12 : decode cX6_orders 12 = .ok (.istore_n 3, 1) := by decide +kernel
theorem dX6_orders_13 : decode cX6_orders 13 = .ok (.aload_n 0, 1) := by decide +kernel
theorem dX6_orders_14 : decode cX6_orders 14 = .ok (.getfield 297, 3) := by decide +kernel
theorem dX6_orders_17 : decode cX6_orders 17 = .ok (.ifCond .eq 11, 3) := by decide +kernel
theorem dX6_orders_20 : decode cX6_orders 20 = .ok (.iload_n 3, 1) := by decide +kernel
theorem dX6_orders_21 : decode cX6_orders 21 = .ok (.aload_n 0, 1) := by decide +kernel
theorem dX6_orders_22 : decode cX6_orders 22 = .ok (.getfield 300, 3) := by decide +kernel
theorem dX6_orders_25 : decode cX6_orders 25 = .ok (.if_icmp .le 16, 3) := by decide +kernel
theorem dX6_orders_28 : decode cX6_orders 28 = .ok (.aload_n 0, 1) := by decide +kernel
theorem dX6_orders_29 : decode cX6_orders 29 = .ok (.aload_n 0, 1) := by decide +kernel
theorem dX6_orders_30 : decode cX6_orders 30 = .ok (.invokevirtual 303, 3) := by decide +kernel
theorem dX6_orders_33 : decode cX6_orders 33 = .ok (.putfield 297, 3) := by decide +kernel
theorem dX6_orders_36 : decode cX6_orders 36 = .ok (.aload_n 0, 1) := by decide +kernel
theorem dX6_orders_37 : decode cX6_orders 37 = .ok (.iload_n 3, 1) := by decide +kernel
theorem dX6_orders_38 : decode cX6_orders 38 = .ok (.putfield 300, 3) := by decide +kernel
theorem dX6_orders_41 : decode cX6_orders 41 = .ok (.return_, 1) := by decide +kernel
theorem dX6_orders_42 : decode cX6_orders 42 = .ok (.iconst 0, 1) := by decide +kernel
theorem dX6_orders_43 : decode cX6_orders 43 = .ok (.istore_n 3, 1) := by decide +kernel
theorem dX6_orders_44 : decode cX6_orders 44 = .ok (.iload_n 3, 1) := by decide +kernel
theorem dX6_orders_45 : decode cX6_orders 45 = .ok (.aload_n 0, 1) := by decide +kernel
theorem dX6_orders_46 : decode cX6_orders 46 = .ok (.getfield 67, 3) := by decide +kernel
theorem dX6_orders_49 : decode cX6_orders 49 = .ok (.if_icmp .ge 39, 3) := by decide +kernel
theorem dX6_orders_52 : decode cX6_orders 52 = .ok (.iload_n 2, 1) := by decide +kernel
theorem dX6_orders_53 : decode cX6_orders 53 = .ok (.iload_n 3, 1) := by decide +kernel
theorem dX6_orders_54 : decode cX6_orders 54 = .ok (.ishr, 1) := by decide +kernel
theorem dX6_orders_55 : decode cX6_orders 55 = .ok (.iconst 1, 1) := by decide +kernel
theorem dX6_orders_56 : decode cX6_orders 56 = .ok (.iand, 1) := by decide +kernel
theorem dX6_orders_57 : decode cX6_orders 57 = .ok (.iconst 1, 1) := by decide +kernel
theorem dX6_orders_58 : decode cX6_orders 58 = .ok (.if_icmp .ne 24, 3) := by decide +kernel
theorem dX6_orders_61 : decode cX6_orders 61 = .ok (.aload_n 0, 1) := by decide +kernel
theorem dX6_orders_62 : decode cX6_orders 62 = .ok (.getfield 26, 3) := by decide +kernel
theorem dX6_orders_65 : decode cX6_orders 65 = .ok (.iload_n 1, 1) := by decide +kernel
theorem dX6_orders_66 : decode cX6_orders 66 = .ok (.iload_n 3, 1) := by decide +kernel
theorem dX6_orders_67 : decode cX6_orders 67 = .ok (.iastore, 1) := by decide +kernel
theorem dX6_orders_68 : decode cX6_orders 68 = .ok (.aload_n 0, 1) := by decide +kernel
theorem dX6_orders_69 : decode cX6_orders 69 = .ok (.iload_n 1, 1) := by decide +kernel
theorem dX6_orders_70 : decode cX6_orders 70 = .ok (.iconst 1, 1) := by decide +kernel
theorem dX6_orders_71 : decode cX6_orders 71 = .ok (.iadd, 1) := by decide +kernel
theorem dX6_orders_72 : decode cX6_orders 72 = .ok (.iload_n 2, 1) := by decide +kernel
theorem dX6_orders_73 : decode cX6_orders 73 = .ok (.iconst 1, 1) := by decide +kernel
theorem dX6_orders_74 : decode cX6_orders 74 = .ok (.iload_n 3, 1) := by decide +kernel
theorem dX6_orders_75 : decode cX6_orders 75 = .ok (.ishl, 1) := by decide +kernel
theorem dX6_orders_76 : decode cX6_orders 76 = .ok (.iconst (-1), 1) := by decide +kernel
theorem dX6_orders_77 : decode cX6_orders 77 = .ok (.ixor, 1) := by decide +kernel
theorem dX6_orders_78 : decode cX6_orders 78 = .ok (.iand, 1) := by decide +kernel
theorem dX6_orders_79 : decode cX6_orders 79 = .ok (.invokevirtual 306, 3) := by decide +kernel
theorem dX6_orders_82 : decode cX6_orders 82 = .ok (.iinc 3 1, 3) := by decide +kernel
theorem dX6_orders_85 : decode cX6_orders 85 = .ok (.goto (-41), 3) := by decide +kernel
theorem dX6_orders_88 : decode cX6_orders 88 = .ok (.return_, 1) := by decide +kernel
theorem dX6_order_0 : decode cX6_order 0 = .ok (.iload_n 1, 1) := by decide +kernel
theorem dX6_order_1 : decode cX6_order 1 = .ok (.i2l, 1) := by decide +kernel
theorem dX6_order_2 : decode cX6_order 2 = .ok (.lconst 0, 1) := by decide +kernel
theorem dX6_order_3 : decode cX6_order 3 = .ok (.lconst 1, 1) := by decide +kernel
theorem dX6_order_4 : decode cX6_order 4 = .ok (.invokestatic 70, 3) := by decide +kernel
theorem dX6_order_7 : decode cX6_order 7 = .ok (.ifCond .ne 6, 3) := by decide +kernel
theorem dX6_order_10 : decode cX6_order 10 = .ok (.bipush (-2), 2) := by decide +kernel
theorem dX6_order_12 : decode cX6_order 12 = .ok (.ireturn, 1) := by decide +kernel
theorem dX6_order_13 : decode cX6_order 13 = .ok (.iconst 0, 1) := by decide +kernel
theorem dX6_order_14 : decode cX6_order 14 = .ok (.istore_n 2, 1) := by decide +kernel
theorem dX6_order_15 : decode cX6_order 15 = .ok (.iconst 0, 1) := by decide +kernel
theorem dX6_order_16 : decode cX6_order 16 = .ok (.istore_n 3, 1) := by decide +kernel
theorem dX6_order_17 : decode cX6_order 17 = .ok (.iload_n 3, 1) := by decide +kernel
theorem dX6_order_18 : decode cX6_order 18 = .ok (.aload_n 0, 1) := by decide +kernel
theorem dX6_order_19 : decode cX6_order 19 = .ok (.getfield 78, 3) := by decide +kernel
theorem dX6_order_22 : decode cX6_order 22 = .ok (.if_icmp .ge 40, 3) := by decide +kernel
theorem dX6_order_25 : decode cX6_order 25 = .ok (.aload_n 0, 1) := by decide +kernel
theorem dX6_order_26 : decode cX6_order 26 = .ok (.getfield 35, 3) := by decide +kernel
theorem dX6_order_29 : decode cX6_order 29 = .ok (.iload_n 3, 1) := by decide +kernel
theorem dX6_order_30 : decode cX6_order 30 = .ok (.aload_n 0, 1) := by decide +kernel
theorem dX6_order_31 : decode cX6_order 31 = .ok (.getfield 26, 3) := by decide +kernel
theorem dX6_order_34 : decode cX6_order 34 = .ok (.iload_n 3, 1) := by decide +kernel
theorem dX6_order_35 : decode cX6_order 35 = .ok (.iaload, 1) := by decide +kernel
theorem dX6_order_36 : decode cX6_order 36 = .ok (.iastore, 1) := by decide +kernel
theorem dX6_order_37 : decode cX6_order 37 = .ok (.iload_n 2, 1) := by decide +kernel
theorem dX6_order_38 : decode cX6_order 38 = .ok (.iload_n 3, 1) := by decide +kernel
theorem dX6_order_39 : decode cX6_order 39 = .ok (.ifCond .ne 7, 3) := by decide +kernel
theorem dX6_order_42 : decode cX6_order 42 = .ok (.iconst 0, 1) := by decide +kernel
theorem dX6_order_43 : decode cX6_order 43 = .ok (.goto 11, 3) := by decide +kernel
theorem dX6_order_46 : decode cX6_order 46 = .ok (.iconst 1, 1) := by decide +kernel
theorem dX6_order_47 : decode cX6_order 47 = .ok (.aload_n 0, 1) := by decide +kernel
theorem dX6_order_48 : decode cX6_order 48 = .ok (.getfield 26, 3) := by decide +kernel
theorem dX6_order_51 : decode cX6_order 51 = .ok (.iload_n 3, 1) := by decide +kernel
theorem dX6_order_52 : decode cX6_order 52 = .ok (.iaload, 1) := by decide +kernel
theorem dX6_order_53 : decode cX6_order 53 = .ok (.ishl, 1) := by decide +kernel
theorem dX6_order_54 : decode cX6_order 54 = .ok (.ior, 1) := by decide +kernel
theorem dX6_order_55 : decode cX6_order 55 = .ok (.istore_n 2, 1) := by decide +kernel
theorem dX6_order_56 : decode cX6_order 56 = .ok (.iinc 3 1, 3) := by decide +kernel
theorem dX6_order_59 : decode cX6_order 59 = .ok (.goto (-42), 3) := by decide +kernel
theorem dX6_order_62 : decode cX6_order 62 = .ok (.aload_n 0, 1) := by decide +kernel
theorem dX6_order_63 : decode cX6_order 63 = .ok (.iconst 0, 1) := by decide +kernel
theorem dX6_order_64 : decode cX6_order 64 = .ok (.putfield 297, 3) := by decide +kernel
theorem dX6_order_67 : decode cX6_order 67 = .ok (.aload_n 0, 1) := by decide +kernel
theorem dX6_order_68 : decode cX6_order 68 = .ok (.iconst (-1), 1) := by decide +kernel
theorem dX6_order_69 : decode cX6_order 69 = .ok (.putfield 300, 3) := by decide +kernel
theorem dX6_order_72 : decode cX6_order 72 = .ok (.aload_n 0, 1) := by decide +kernel
theorem dX6_order_73 : decode cX6_order 73 = .ok (.getfield 78, 3) := by decide +kernel
theorem dX6_order_76 : decode cX6_order 76 = .ok (.ifCond .le 9, 3) := by decide +kernel
theorem dX6_order_79 : decode cX6_order 79 = .ok (.aload_n 0, 1) := by decide +kernel
theorem dX6_order_80 : decode cX6_order 80 = .ok (.iconst 1, 1) := by decide +kernel
theorem dX6_order_81 : decode cX6_order 81 = .ok (.iload_n 2, 1) := by decide +kernel
theorem dX6_order_82 : decode cX6_order 82 = .ok (.invokevirtual 306, 3) := by decide +kernel
theorem dX6_order_85 : decode cX6_order 85 = .ok (.iconst 0, 1) := by decide +kernel
theorem dX6_order_86 : decode cX6_order 86 = .ok (.istore_n 3, 1) := by decide +kernel
theorem dX6_order_87 : decode cX6_order 87 = .ok (.iload_n 3, 1) := by decide +kernel
theorem dX6_order_88 : decode cX6_order 88 = .ok (.aload_n 0, 1) := by decide +kernel
theorem dX6_order_89 : decode cX6_order 89 = .ok (.getfield 78, 3) := by decide +kernel
theorem dX6_order_92 : decode cX6_order 92 = .ok (.if_icmp .ge 21, 3) := by decide +kernel
theorem dX6_order_95 : decode cX6_order 95 = .ok (.aload_n 0, 1) := by decide +kernel
theorem dX6_order_96 : decode cX6_order 96 = .ok (.getfield 26, 3) := by decide +kernel
theorem dX6_order_99 : decode cX6_order 99 = .ok (.iload_n 3, 1) := by decide +kernel
theorem dX6_order_100 : decode cX6_order 100 = .ok (.aload_n 0, 1) := by decide +kernel
theorem dX6_order_101 : decode cX6_order 101 = .ok (.getfield 35, 3) := by decide +kernel
theorem dX6_order_104 : decode cX6_order 104 = .ok (.iload_n 3, 1) := by decide +kernel
theorem dX6_order_105 : decode cX6_order 105 = .ok (.iaload, 1) := by decide +kernel
theorem dX6_order_106 : decode cX6_order 106 = .ok (.iastore, 1) := by decide +kernel
theorem dX6_order_107 : decode cX6_order 107 = .ok (.iinc 3 1, 3) := by decide +kernel
theorem dX6_order_110 : decode cX6_order 110 = .ok (.goto (-23), 3) := by decide +kernel
theorem dX6_order_113 : decode cX6_order 113 = .ok (.iload_n 1, 1) := by decide +kernel
theorem dX6_order_114 : decode cX6_order 114 = .ok (.ifCond .ne 10, 3) := by decide +kernel
theorem dX6_order_117 : decode cX6_order 117 = .ok (.aload_n 0, 1) := by decide +kernel
theorem dX6_order_118 : decode cX6_order 118 = .ok (.getfield 297, 3) := by decide +kernel
theorem dX6_order_121 : decode cX6_order 121 = .ok (.goto 7, 3) := by decide +kernel
theorem dX6_order_124 : decode cX6_order 124 = .ok (.aload_n 0, 1) := by decide +kernel
theorem dX6_order_125 : decode cX6_order 125 = .ok (.getfield 300, 3) := by decide +kernel
theorem dX6_order_128 : decode cX6_order 128 = .ok (.ireturn, 1) := by decide +kernel
theorem dX6_let_0 : decode cX6_let 0 = .ok (.iload_n 1, 1) := by decide +kernel
theorem dX6_let_1 : decode cX6_let 1 = .ok (.i2l, 1) := by decide +kernel
theorem dX6_let_2 : decode cX6_let 2 = .ok (.lconst 0, 1) := by decide +kernel
theorem dX6_let_3 : decode cX6_let 3 = .ok (.lconst 1, 1) := by decide +kernel
theorem dX6_let_4 : decode cX6_let 4 = .ok (.invokestatic 70, 3) := by decide +kernel
theorem dX6_let_7 : decode cX6_let 7 = .ok (.ifCond .ne 6, 3) := by decide +kernel
theorem dX6_let_10 : decode cX6_let 10 = .ok (.bipush (-2), 2) := by decide +kernel
theorem dX6_let_12 : decode cX6_let 12 = .ok (.ireturn, 1) := by decide +kernel
theorem dX6_let_13 : decode cX6_let 13 = .ok (.iconst (-1), 1) := by decide +kernel
theorem dX6_let_14 : decode cX6_let 14 = .ok (.istore_n 2, 1) := by decide +kernel
theorem dX6_let_15 : decode cX6_let 15 = .ok (.iconst (-1), 1) := by decide +kernel
theorem dX6_let_16 : decode cX6_let 16 = .ok (.istore_n 3, 1) := by decide +kernel
theorem dX6_let_17 : decode cX6_let 17 = .ok (.iconst 0, 1) := by decide +kernel
theorem dX6_let_18 : decode cX6_let 18 = .ok (.istore 4, 2) := by decide +kernel
theorem dX6_let_20 : decode cX6_let 20 = .ok (.iload 4, 2) := by decide +kernel
theorem dX6_let_22 : decode cX6_let 22 = .ok (.aload_n 0, 1) := by decide +kernel
theorem dX6_let_23 : decode cX6_let 23 = .ok (.getfield 67, 3) := by decide +kernel
theorem dX6_let_26 : decode cX6_let 26 = .ok (.if_icmp .ge 63, 3) := by decide +kernel
theorem dX6_let_29 : decode cX6_let 29 = .ok (.aload_n 0, 1) := by decide +kernel
theorem dX6_let_30 : decode cX6_let 30 = .ok (.getfield 78, 3) := by decide +kernel
theorem dX6_let_33 : decode cX6_let 33 = .ok (.iconst 2, 1) := by decide +kernel
theorem dX6_let_34 : decode cX6_let 34 = .ok (.if_icmp .le 55, 3) := by decide +kernel
theorem dX6_let_37 : decode cX6_let 37 = .ok (.aload_n 0, 1) := by decide +kernel
theorem dX6_let_38 : decode cX6_let 38 = .ok (.iload 4, 2) := by decide +kernel
theorem dX6_let_40 : decode cX6_let 40 = .ok (.invokevirtual 119, 3) := by decide +kernel
theorem dX6_let_43 : decode cX6_let 43 = .ok (.istore 5, 2) := by decide +kernel
theorem dX6_let_45 : decode cX6_let 45 = .ok (.iload 5, 2) := by decide +kernel
theorem dX6_let_47 : decode cX6_let 47 = .ok (.iconst (-1), 1) := by decide +kernel
theorem dX6_let_48 : decode cX6_let 48 = .ok (.if_icmp .eq 35, 3) := by decide +kernel
theorem dX6_let_51 : decode cX6_let 51 = .ok (.aload_n 0, 1) := by decide +kernel
theorem dX6_let_52 : decode cX6_let 52 = .ok (.iload 5, 2) := by decide +kernel
theorem dX6_let_54 : decode cX6_let 54 = .ok (.invokevirtual 271, 3) := by decide +kernel
theorem dX6_let_57 : decode cX6_let 57 = .ok (.aload_n 0, 1) := by decide +kernel
theorem dX6_let_58 : decode cX6_let 58 = .ok (.invokevirtual 262, 3) := by decide +kernel
theorem dX6_let_61 : decode cX6_let 61 = .ok (.istore 6, 2) := by decide +kernel
theorem dX6_let_63 : decode cX6_let 63 = .ok (.aload_n 0, 1) := by decide +kernel
theorem dX6_let_64 : decode cX6_let 64 = .ok (.iload 4, 2) := by decide +kernel
theorem dX6_let_66 : decode cX6_let 66 = .ok (.iload 5, 2) := by decide +kernel
theorem dX6_let_68 : decode cX6_let 68 = .ok (.invokevirtual 275, 3) := by decide +kernel
theorem dX6_let_71 : decode cX6_let 71 = .ok (.iload 6, 2) := by decide +kernel
theorem dX6_let_73 : decode cX6_let 73 = .ok (.iload_n 3, 1) := by decide +kernel
theorem dX6_let_74 : decode cX6_let 74 = .ok (.if_icmp .le 9, 3) := by decide +kernel
theorem dX6_let_77 : decode cX6_let 77 = .ok (.iload 4, 2) := by decide +kernel
theorem dX6_let_79 : decode cX6_let 79 = .ok (.istore_n 2, 1) := by decide +kernel
theorem dX6_let_80 : decode cX6_let 80 = .ok (.iload 6, 2) := by decide +kernel
theorem dX6_let_82 : decode cX6_let 82 = .ok (.istore_n 3, 1) := by decide +kernel
theorem dX6_let_83 : decode cX6_let 83 = .ok (.iinc 4 1, 3) := by decide +kernel
theorem dX6_let_86 : decode cX6_let 86 = .ok (.goto (-66), 3) := by decide +kernel
theorem dX6_let_89 : decode cX6_let 89 = .ok (.iload_n 1, 1) := by decide +kernel
theorem dX6_let_90 : decode cX6_let 90 = .ok (.ifCond .ne 7, 3) := by decide +kernel
theorem dX6_let_93 : decode cX6_let 93 = .ok (.iload_n 2, 1) := by decide +kernel
theorem dX6_let_94 : decode cX6_let 94 = .ok (.goto 4, 3) := by decide +kernel
theorem dX6_let_97 : decode cX6_let 97 = .ok (.iload_n 3, 1) := by decide +kernel
theorem dX6_let_98 : decode cX6_let 98 = .ok (.ireturn, 1) := by decide +kernel
theorem dX6_letsIn_0 : decode cX6_letsIn 0 = .ok (.aload_n 0, 1) := by decide +kernel
theorem dX6_letsIn_1 : decode cX6_letsIn 1 = .ok (.iload_n 1, 1) := by decide +kernel
theorem dX6_letsIn_2 : decode cX6_letsIn 2 = .ok (.invokevirtual 74, 3) := by decide +kernel
theorem dX6_letsIn_5 : decode cX6_letsIn 5 = .ok (.ifCond .eq 13, 3) := by decide +kernel
theorem dX6_letsIn_8 : decode cX6_letsIn 8 = .ok (.iload_n 2, 1) := by decide +kernel
theorem dX6_letsIn_9 : decode cX6_letsIn 9 = .ok (.i2l, 1) := by decide +kernel
theorem dX6_letsIn_10 : decode cX6_letsIn 10 = .ok (.lconst 0, 1) := by decide +kernel
theorem dX6_letsIn_11 : decode cX6_letsIn 11 = .ok (.lconst 1, 1) := by decide +kernel
theorem dX6_letsIn_12 : decode cX6_letsIn 12 = .ok (.invokestatic 70, 3) := by decide +kernel
theorem dX6_letsIn_15 : decode cX6_letsIn 15 = .ok (.ifCond .ne 6, 3) := by decide +kernel
theorem dX6_letsIn_18 : decode cX6_letsIn 18 = .ok (.bipush (-2), 2) := by decide +kernel
theorem dX6_letsIn_20 : decode cX6_letsIn 20 = .ok (.ireturn, 1) := by decide +kernel
theorem dX6_letsIn_21 : decode cX6_letsIn 21 = .ok (.aload_n 0, 1) := by decide +kernel
theorem dX6_letsIn_22 : decode cX6_letsIn 22 = .ok (.iload_n 1, 1) := by decide +kernel
theorem dX6_letsIn_23 : decode cX6_letsIn 23 = .ok (.invokevirtual 119, 3) := by decide +kernel
theorem dX6_letsIn_26 : decode cX6_letsIn 26 = .ok (.iconst (-1), 1) := by decide +kernel
theorem dX6_letsIn_27 : decode cX6_letsIn 27 = .ok (.if_icmp .eq 6, 3) := by decide +kernel
theorem dX6_letsIn_30 : decode cX6_letsIn 30 = .ok (.bipush (-3), 2) := by decide +kernel
theorem dX6_letsIn_32 : decode cX6_letsIn 32 = .ok (.ireturn, 1) := by decide +kernel
theorem dX6_letsIn_33 : decode cX6_letsIn 33 = .ok (.iconst (-1), 1) := by decide +kernel
theorem dX6_letsIn_34 : decode cX6_letsIn 34 = .ok (.istore_n 3, 1) := by decide +kernel
theorem dX6_letsIn_35 : decode cX6_letsIn 35 = .ok (.iconst (-1), 1) := by decide +kernel
theorem dX6_letsIn_36 : decode cX6_letsIn 36 = .ok (.istore 4, 2) := by decide +kernel
theorem dX6_letsIn_38 : decode cX6_letsIn 38 = .ok (.aload_n 0, 1) := by decide +kernel
theorem dX6_letsIn_39 : decode cX6_letsIn 39 = .ok (.getfield 78, 3) := by decide +kernel
theorem dX6_letsIn_42 : decode cX6_letsIn 42 = .ok (.istore 5, 2) := by decide +kernel
theorem dX6_letsIn_44 : decode cX6_letsIn 44 = .ok (.iconst 1, 1) := by decide +kernel
theorem dX6_letsIn_45 : decode cX6_letsIn 45 = .ok (.istore 6, 2) := by decide +kernel
theorem dX6_letsIn_47 : decode cX6_letsIn 47 = .ok (.iload 6, 2) := by decide +kernel
theorem dX6_letsIn_49 : decode cX6_letsIn 49 = .ok (.iload 5, 2) := by decide +kernel
theorem dX6_letsIn_51 : decode cX6_letsIn 51 = .ok (.if_icmp .gt 42, 3) := by decide +kernel
theorem dX6_letsIn_54 : decode cX6_letsIn 54 = .ok (.aload_n 0, 1) := by decide +kernel
theorem dX6_letsIn_55 : decode cX6_letsIn 55 = .ok (.iload_n 1, 1) := by decide +kernel
theorem dX6_letsIn_56 : decode cX6_letsIn 56 = .ok (.iload 6, 2) := by decide +kernel
theorem dX6_letsIn_58 : decode cX6_letsIn 58 = .ok (.invokevirtual 275, 3) := by decide +kernel
theorem dX6_letsIn_61 : decode cX6_letsIn 61 = .ok (.aload_n 0, 1) := by decide +kernel
theorem dX6_letsIn_62 : decode cX6_letsIn 62 = .ok (.invokevirtual 262, 3) := by decide +kernel
theorem dX6_letsIn_65 : decode cX6_letsIn 65 = .ok (.istore 7, 2) := by decide +kernel
theorem dX6_letsIn_67 : decode cX6_letsIn 67 = .ok (.aload_n 0, 1) := by decide +kernel
theorem dX6_letsIn_68 : decode cX6_letsIn 68 = .ok (.iload 6, 2) := by decide +kernel
theorem dX6_letsIn_70 : decode cX6_letsIn 70 = .ok (.invokevirtual 271, 3) := by decide +kernel
theorem dX6_letsIn_73 : decode cX6_letsIn 73 = .ok (.iload 7, 2) := by decide +kernel
theorem dX6_letsIn_75 : decode cX6_letsIn 75 = .ok (.iload 4, 2) := by decide +kernel
theorem dX6_letsIn_77 : decode cX6_letsIn 77 = .ok (.if_icmp .le 10, 3) := by decide +kernel
theorem dX6_letsIn_80 : decode cX6_letsIn 80 = .ok (.iload 6, 2) := by decide +kernel
theorem dX6_letsIn_82 : decode cX6_letsIn 82 = .ok (.istore_n 3, 1) := by decide +kernel
theorem dX6_letsIn_83 : decode cX6_letsIn 83 = .ok (.iload 7, 2) := by decide +kernel
theorem dX6_letsIn_85 : decode cX6_letsIn 85 = .ok (.istore 4, 2) := by decide +kernel
theorem dX6_letsIn_87 : decode cX6_letsIn 87 = .ok (.iinc 6 1, 3) := by decide +kernel
theorem dX6_letsIn_90 : decode cX6_letsIn 90 = .ok (.goto (-43), 3) := by decide +kernel
theorem dX6_letsIn_93 : decode cX6_letsIn 93 = .ok (.iload_n 2, 1) := by decide +kernel
theorem dX6_letsIn_94 : decode cX6_letsIn 94 = .ok (.ifCond .ne 7, 3) := by decide +kernel
theorem dX6_letsIn_97 : decode cX6_letsIn 97 = .ok (.iload_n 3, 1) := by decide +kernel
theorem dX6_letsIn_98 : decode cX6_letsIn 98 = .ok (.goto 5, 3) := by decide +kernel
theorem dX6_letsIn_101 : decode cX6_letsIn 101 = .ok (.iload 4, 2) := by decide +kernel
theorem dX6_letsIn_103 : decode cX6_letsIn 103 = .ok (.ireturn, 1) := by decide +kernel
theorem dX6_shutBy_0 : decode cX6_shutBy 0 = .ok (.iload_n 1, 1) := by decide +kernel
theorem dX6_shutBy_1 : decode cX6_shutBy 1 = .ok (.ifCond .ne 16, 3) := by decide +kernel
theorem dX6_shutBy_4 : decode cX6_shutBy 4 = .ok (.aload_n 0, 1) := by decide +kernel
theorem dX6_shutBy_5 : decode cX6_shutBy 5 = .ok (.invokevirtual 265, 3) := by decide +kernel
theorem dX6_shutBy_8 : decode cX6_shutBy 8 = .ok (.ifCond .ne 7, 3) := by decide +kernel
theorem dX6_shutBy_11 : decode cX6_shutBy 11 = .ok (.iconst 1, 1) := by decide +kernel
theorem dX6_shutBy_12 : decode cX6_shutBy 12 = .ok (.goto 4, 3) := by decide +kernel
theorem dX6_shutBy_15 : decode cX6_shutBy 15 = .ok (.iconst 0, 1) := by decide +kernel
theorem dX6_shutBy_16 : decode cX6_shutBy 16 = .ok (.ireturn, 1) := by decide +kernel
theorem dX6_shutBy_17 : decode cX6_shutBy 17 = .ok (.iconst 0, 1) := by decide +kernel
theorem dX6_shutBy_18 : decode cX6_shutBy 18 = .ok (.istore_n 2, 1) := by decide +kernel
theorem dX6_shutBy_19 : decode cX6_shutBy 19 = .ok (.iconst 0, 1) := by decide +kernel
theorem dX6_shutBy_20 : decode cX6_shutBy 20 = .ok (.istore_n 3, 1) := by decide +kernel
theorem dX6_shutBy_21 : decode cX6_shutBy 21 = .ok (.iload_n 3, 1) := by decide +kernel
theorem dX6_shutBy_22 : decode cX6_shutBy 22 = .ok (.aload_n 0, 1) := by decide +kernel
theorem dX6_shutBy_23 : decode cX6_shutBy 23 = .ok (.getfield 78, 3) := by decide +kernel
theorem dX6_shutBy_26 : decode cX6_shutBy 26 = .ok (.aload_n 0, 1) := by decide +kernel
theorem dX6_shutBy_27 : decode cX6_shutBy 27 = .ok (.getfield 78, 3) := by decide +kernel
theorem dX6_shutBy_30 : decode cX6_shutBy 30 = .ok (.imul, 1) := by decide +kernel
theorem dX6_shutBy_31 : decode cX6_shutBy 31 = .ok (.if_icmp .ge 68, 3) := by decide +kernel
theorem dX6_shutBy_34 : decode cX6_shutBy 34 = .ok (.iload_n 2, 1) := by decide +kernel
theorem dX6_shutBy_35 : decode cX6_shutBy 35 = .ok (.ifCond .ne 64, 3) := by decide +kernel
theorem dX6_shutBy_38 : decode cX6_shutBy 38 = .ok (.iload_n 3, 1) := by decide +kernel
theorem dX6_shutBy_39 : decode cX6_shutBy 39 = .ok (.aload_n 0, 1) := by decide +kernel
theorem dX6_shutBy_40 : decode cX6_shutBy 40 = .ok (.getfield 78, 3) := by decide +kernel
theorem dX6_shutBy_43 : decode cX6_shutBy 43 = .ok (.idiv, 1) := by decide +kernel
theorem dX6_shutBy_44 : decode cX6_shutBy 44 = .ok (.iload_n 3, 1) := by decide +kernel
theorem dX6_shutBy_45 : decode cX6_shutBy 45 = .ok (.aload_n 0, 1) := by decide +kernel
theorem dX6_shutBy_46 : decode cX6_shutBy 46 = .ok (.getfield 78, 3) := by decide +kernel
theorem dX6_shutBy_49 : decode cX6_shutBy 49 = .ok (.irem, 1) := by decide +kernel
theorem dX6_shutBy_50 : decode cX6_shutBy 50 = .ok (.if_icmp .ge 43, 3) := by decide +kernel
theorem dX6_shutBy_53 : decode cX6_shutBy 53 = .ok (.aload_n 0, 1) := by decide +kernel
theorem dX6_shutBy_54 : decode cX6_shutBy 54 = .ok (.iload_n 3, 1) := by decide +kernel
theorem dX6_shutBy_55 : decode cX6_shutBy 55 = .ok (.aload_n 0, 1) := by decide +kernel
theorem dX6_shutBy_56 : decode cX6_shutBy 56 = .ok (.getfield 78, 3) := by decide +kernel
theorem dX6_shutBy_59 : decode cX6_shutBy 59 = .ok (.idiv, 1) := by decide +kernel
theorem dX6_shutBy_60 : decode cX6_shutBy 60 = .ok (.iload_n 3, 1) := by decide +kernel
theorem dX6_shutBy_61 : decode cX6_shutBy 61 = .ok (.aload_n 0, 1) := by decide +kernel
theorem dX6_shutBy_62 : decode cX6_shutBy 62 = .ok (.getfield 78, 3) := by decide +kernel
theorem dX6_shutBy_65 : decode cX6_shutBy 65 = .ok (.irem, 1) := by decide +kernel
theorem dX6_shutBy_66 : decode cX6_shutBy 66 = .ok (.invokevirtual 279, 3) := by decide +kernel
theorem dX6_shutBy_69 : decode cX6_shutBy 69 = .ok (.aload_n 0, 1) := by decide +kernel
theorem dX6_shutBy_70 : decode cX6_shutBy 70 = .ok (.iload_n 1, 1) := by decide +kernel
theorem dX6_shutBy_71 : decode cX6_shutBy 71 = .ok (.iconst 1, 1) := by decide +kernel
theorem dX6_shutBy_72 : decode cX6_shutBy 72 = .ok (.isub, 1) := by decide +kernel
theorem dX6_shutBy_73 : decode cX6_shutBy 73 = .ok (.invokevirtual 309, 3) := by decide +kernel
theorem dX6_shutBy_76 : decode cX6_shutBy 76 = .ok (.istore_n 2, 1) := by decide +kernel
theorem dX6_shutBy_77 : decode cX6_shutBy 77 = .ok (.aload_n 0, 1) := by decide +kernel
theorem dX6_shutBy_78 : decode cX6_shutBy 78 = .ok (.iload_n 3, 1) := by decide +kernel
theorem dX6_shutBy_79 : decode cX6_shutBy 79 = .ok (.aload_n 0, 1) := by decide +kernel
theorem dX6_shutBy_80 : decode cX6_shutBy 80 = .ok (.getfield 78, 3) := by decide +kernel
theorem dX6_shutBy_83 : decode cX6_shutBy 83 = .ok (.idiv, 1) := by decide +kernel
theorem dX6_shutBy_84 : decode cX6_shutBy 84 = .ok (.iload_n 3, 1) := by decide +kernel
theorem dX6_shutBy_85 : decode cX6_shutBy 85 = .ok (.aload_n 0, 1) := by decide +kernel
end
section
theorem dX6_shutBy_86 : decode cX6_shutBy 86 = .ok (.getfield 78, 3) := by decide +kernel
theorem dX6_shutBy_89 : decode cX6_shutBy 89 = .ok (.irem, 1) := by decide +kernel
theorem dX6_shutBy_90 : decode cX6_shutBy 90 = .ok (.invokevirtual 279, 3) := by decide +kernel
theorem dX6_shutBy_93 : decode cX6_shutBy 93 = .ok (.iinc 3 1, 3) := by decide +kernel
theorem dX6_shutBy_96 : decode cX6_shutBy 96 = .ok (.goto (-75), 3) := by decide +kernel
theorem dX6_shutBy_99 : decode cX6_shutBy 99 = .ok (.iload_n 2, 1) := by decide +kernel
theorem dX6_shutBy_100 : decode cX6_shutBy 100 = .ok (.ireturn, 1) := by decide +kernel
theorem dX6_swaps_0 : decode cX6_swaps 0 = .ok (.iconst 0, 1) := by decide +kernel
theorem dX6_swaps_1 : decode cX6_swaps 1 = .ok (.istore_n 1, 1) := by decide +kernel
theorem dX6_swaps_2 : decode cX6_swaps 2 = .ok (.iload_n 1, 1) := by decide +kernel
theorem dX6_swaps_3 : decode cX6_swaps 3 = .ok (.iconst 3, 1) := by decide +kernel
theorem dX6_swaps_4 : decode cX6_swaps 4 = .ok (.if_icmp .ge 19, 3) := by decide +kernel
theorem dX6_swaps_7 : decode cX6_swaps 7 = .ok (.aload_n 0, 1) := by decide +kernel
theorem dX6_swaps_8 : decode cX6_swaps 8 = .ok (.iload_n 1, 1) := by decide +kernel
theorem dX6_swaps_9 : decode cX6_swaps 9 = .ok (.invokevirtual 309, 3) := by decide +kernel
theorem dX6_swaps_12 : decode cX6_swaps 12 = .ok (.ifCond .eq 5, 3) := by decide +kernel
theorem dX6_swaps_15 : decode cX6_swaps 15 = .ok (.iload_n 1, 1) := by decide +kernel
theorem dX6_swaps_16 : decode cX6_swaps 16 = .ok (.ireturn, 1) := by decide +kernel
theorem dX6_swaps_17 : decode cX6_swaps 17 = .ok (.iinc 1 1, 3) := by decide +kernel
theorem dX6_swaps_20 : decode cX6_swaps 20 = .ok (.goto (-18), 3) := by decide +kernel
theorem dX6_swaps_23 : decode cX6_swaps 23 = .ok (.iconst (-1), 1) := by decide +kernel
theorem dX6_swaps_24 : decode cX6_swaps 24 = .ok (.ireturn, 1) := by decide +kernel
theorem dX6_lowest_0 : decode cX6_lowest 0 = .ok (.lload_n 0, 1) := by decide +kernel
theorem dX6_lowest_1 : decode cX6_lowest 1 = .ok (.lstore 5, 2) := by decide +kernel
theorem dX6_lowest_3 : decode cX6_lowest 3 = .ok (.lload_n 2, 1) := by decide +kernel
theorem dX6_lowest_4 : decode cX6_lowest 4 = .ok (.lstore 7, 2) := by decide +kernel
theorem dX6_lowest_6 : decode cX6_lowest 6 = .ok (.lload 7, 2) := by decide +kernel
theorem dX6_lowest_8 : decode cX6_lowest 8 = .ok (.lconst 0, 1) := by decide +kernel
theorem dX6_lowest_9 : decode cX6_lowest 9 = .ok (.lcmp, 1) := by decide +kernel
theorem dX6_lowest_10 : decode cX6_lowest 10 = .ok (.ifCond .eq 21, 3) := by decide +kernel
theorem dX6_lowest_13 : decode cX6_lowest 13 = .ok (.lload 5, 2) := by decide +kernel
theorem dX6_lowest_15 : decode cX6_lowest 15 = .ok (.lload 7, 2) := by decide +kernel
theorem dX6_lowest_17 : decode cX6_lowest 17 = .ok (.lrem, 1) := by decide +kernel
theorem dX6_lowest_18 : decode cX6_lowest 18 = .ok (.lstore 9, 2) := by decide +kernel
theorem dX6_lowest_20 : decode cX6_lowest 20 = .ok (.lload 7, 2) := by decide +kernel
theorem dX6_lowest_22 : decode cX6_lowest 22 = .ok (.lstore 5, 2) := by decide +kernel
theorem dX6_lowest_24 : decode cX6_lowest 24 = .ok (.lload 9, 2) := by decide +kernel
theorem dX6_lowest_26 : decode cX6_lowest 26 = .ok (.lstore 7, 2) := by decide +kernel
theorem dX6_lowest_28 : decode cX6_lowest 28 = .ok (.goto (-22), 3) := by decide +kernel
theorem dX6_lowest_31 : decode cX6_lowest 31 = .ok (.iload 4, 2) := by decide +kernel
theorem dX6_lowest_33 : decode cX6_lowest 33 = .ok (.ifCond .ne 10, 3) := by decide +kernel
theorem dX6_lowest_36 : decode cX6_lowest 36 = .ok (.lload_n 0, 1) := by decide +kernel
theorem dX6_lowest_37 : decode cX6_lowest 37 = .ok (.lload 5, 2) := by decide +kernel
theorem dX6_lowest_39 : decode cX6_lowest 39 = .ok (.ldiv, 1) := by decide +kernel
theorem dX6_lowest_40 : decode cX6_lowest 40 = .ok (.goto 7, 3) := by decide +kernel
theorem dX6_lowest_43 : decode cX6_lowest 43 = .ok (.lload_n 2, 1) := by decide +kernel
theorem dX6_lowest_44 : decode cX6_lowest 44 = .ok (.lload 5, 2) := by decide +kernel
theorem dX6_lowest_46 : decode cX6_lowest 46 = .ok (.ldiv, 1) := by decide +kernel
theorem dX6_lowest_47 : decode cX6_lowest 47 = .ok (.lreturn, 1) := by decide +kernel
theorem dX6_mean_0 : decode cX6_mean 0 = .ok (.iload_n 1, 1) := by decide +kernel
theorem dX6_mean_1 : decode cX6_mean 1 = .ok (.i2l, 1) := by decide +kernel
theorem dX6_mean_2 : decode cX6_mean 2 = .ok (.lconst 0, 1) := by decide +kernel
theorem dX6_mean_3 : decode cX6_mean 3 = .ok (.lconst 1, 1) := by decide +kernel
theorem dX6_mean_4 : decode cX6_mean 4 = .ok (.invokestatic 70, 3) := by decide +kernel
theorem dX6_mean_7 : decode cX6_mean 7 = .ok (.ifCond .eq 10, 3) := by decide +kernel
theorem dX6_mean_10 : decode cX6_mean 10 = .ok (.aload_n 0, 1) := by decide +kernel
theorem dX6_mean_11 : decode cX6_mean 11 = .ok (.getfield 78, 3) := by decide +kernel
theorem dX6_mean_14 : decode cX6_mean 14 = .ok (.ifCond .ne 7, 3) := by decide +kernel
theorem dX6_mean_17 : decode cX6_mean 17 = .ok (.ldc2_w 312, 3) := by decide +kernel
theorem dX6_mean_20 : decode cX6_mean 20 = .ok (.lreturn, 1) := by decide +kernel
theorem dX6_mean_21 : decode cX6_mean 21 = .ok (.iconst 0, 1) := by decide +kernel
theorem dX6_mean_22 : decode cX6_mean 22 = .ok (.istore_n 2, 1) := by decide +kernel
theorem dX6_mean_23 : decode cX6_mean 23 = .ok (.iconst 0, 1) := by decide +kernel
theorem dX6_mean_24 : decode cX6_mean 24 = .ok (.istore_n 3, 1) := by decide +kernel
theorem dX6_mean_25 : decode cX6_mean 25 = .ok (.iload_n 3, 1) := by decide +kernel
theorem dX6_mean_26 : decode cX6_mean 26 = .ok (.aload_n 0, 1) := by decide +kernel
theorem dX6_mean_27 : decode cX6_mean 27 = .ok (.getfield 78, 3) := by decide +kernel
theorem dX6_mean_30 : decode cX6_mean 30 = .ok (.if_icmp .ge 27, 3) := by decide +kernel
theorem dX6_mean_33 : decode cX6_mean 33 = .ok (.iload_n 2, 1) := by decide +kernel
theorem dX6_mean_34 : decode cX6_mean 34 = .ok (.aload_n 0, 1) := by decide +kernel
theorem dX6_mean_35 : decode cX6_mean 35 = .ok (.getfield 23, 3) := by decide +kernel
theorem dX6_mean_38 : decode cX6_mean 38 = .ok (.iconst 3, 1) := by decide +kernel
theorem dX6_mean_39 : decode cX6_mean 39 = .ok (.aload_n 0, 1) := by decide +kernel
theorem dX6_mean_40 : decode cX6_mean 40 = .ok (.getfield 26, 3) := by decide +kernel
theorem dX6_mean_43 : decode cX6_mean 43 = .ok (.iload_n 3, 1) := by decide +kernel
theorem dX6_mean_44 : decode cX6_mean 44 = .ok (.iaload, 1) := by decide +kernel
theorem dX6_mean_45 : decode cX6_mean 45 = .ok (.imul, 1) := by decide +kernel
theorem dX6_mean_46 : decode cX6_mean 46 = .ok (.iconst 1, 1) := by decide +kernel
theorem dX6_mean_47 : decode cX6_mean 47 = .ok (.iadd, 1) := by decide +kernel
theorem dX6_mean_48 : decode cX6_mean 48 = .ok (.iaload, 1) := by decide +kernel
theorem dX6_mean_49 : decode cX6_mean 49 = .ok (.iadd, 1) := by decide +kernel
theorem dX6_mean_50 : decode cX6_mean 50 = .ok (.istore_n 2, 1) := by decide +kernel
theorem dX6_mean_51 : decode cX6_mean 51 = .ok (.iinc 3 1, 3) := by decide +kernel
theorem dX6_mean_54 : decode cX6_mean 54 = .ok (.goto (-29), 3) := by decide +kernel
theorem dX6_mean_57 : decode cX6_mean 57 = .ok (.iload_n 2, 1) := by decide +kernel
theorem dX6_mean_58 : decode cX6_mean 58 = .ok (.i2l, 1) := by decide +kernel
theorem dX6_mean_59 : decode cX6_mean 59 = .ok (.aload_n 0, 1) := by decide +kernel
theorem dX6_mean_60 : decode cX6_mean 60 = .ok (.getfield 78, 3) := by decide +kernel
theorem dX6_mean_63 : decode cX6_mean 63 = .ok (.i2l, 1) := by decide +kernel
theorem dX6_mean_64 : decode cX6_mean 64 = .ok (.iload_n 1, 1) := by decide +kernel
theorem dX6_mean_65 : decode cX6_mean 65 = .ok (.invokestatic 314, 3) := by decide +kernel
theorem dX6_mean_68 : decode cX6_mean 68 = .ok (.lreturn, 1) := by decide +kernel
theorem dX6_firstOther_0 : decode cX6_firstOther 0 = .ok (.iconst 0, 1) := by decide +kernel
theorem dX6_firstOther_1 : decode cX6_firstOther 1 = .ok (.istore_n 2, 1) := by decide +kernel
theorem dX6_firstOther_2 : decode cX6_firstOther 2 = .ok (.iload_n 2, 1) := by decide +kernel
theorem dX6_firstOther_3 : decode cX6_firstOther 3 = .ok (.aload_n 0, 1) := by decide +kernel
theorem dX6_firstOther_4 : decode cX6_firstOther 4 = .ok (.getfield 54, 3) := by decide +kernel
theorem dX6_firstOther_7 : decode cX6_firstOther 7 = .ok (.iload_n 1, 1) := by decide +kernel
theorem dX6_firstOther_8 : decode cX6_firstOther 8 = .ok (.iaload, 1) := by decide +kernel
theorem dX6_firstOther_9 : decode cX6_firstOther 9 = .ok (.if_icmp .ge 46, 3) := by decide +kernel
theorem dX6_firstOther_12 : decode cX6_firstOther 12 = .ok (.iload_n 2, 1) := by decide +kernel
theorem dX6_firstOther_13 : decode cX6_firstOther 13 = .ok (.aload_n 0, 1) := by decide +kernel
theorem dX6_firstOther_14 : decode cX6_firstOther 14 = .ok (.getfield 78, 3) := by decide +kernel
theorem dX6_firstOther_17 : decode cX6_firstOther 17 = .ok (.if_icmp .ge 30, 3) := by decide +kernel
theorem dX6_firstOther_20 : decode cX6_firstOther 20 = .ok (.aload_n 0, 1) := by decide +kernel
theorem dX6_firstOther_21 : decode cX6_firstOther 21 = .ok (.getfield 78, 3) := by decide +kernel
theorem dX6_firstOther_24 : decode cX6_firstOther 24 = .ok (.iconst 2, 1) := by decide +kernel
theorem dX6_firstOther_25 : decode cX6_firstOther 25 = .ok (.if_icmp .lt 22, 3) := by decide +kernel
theorem dX6_firstOther_28 : decode cX6_firstOther 28 = .ok (.aload_n 0, 1) := by decide +kernel
theorem dX6_firstOther_29 : decode cX6_firstOther 29 = .ok (.iload_n 2, 1) := by decide +kernel
theorem dX6_firstOther_30 : decode cX6_firstOther 30 = .ok (.invokevirtual 125, 3) := by decide +kernel
theorem dX6_firstOther_33 : decode cX6_firstOther 33 = .ok (.aload_n 0, 1) := by decide +kernel
theorem dX6_firstOther_34 : decode cX6_firstOther 34 = .ok (.getfield 57, 3) := by decide +kernel
theorem dX6_firstOther_37 : decode cX6_firstOther 37 = .ok (.bipush 40, 2) := by decide +kernel
theorem dX6_firstOther_39 : decode cX6_firstOther 39 = .ok (.iload_n 1, 1) := by decide +kernel
theorem dX6_firstOther_40 : decode cX6_firstOther 40 = .ok (.imul, 1) := by decide +kernel
theorem dX6_firstOther_41 : decode cX6_firstOther 41 = .ok (.iload_n 2, 1) := by decide +kernel
theorem dX6_firstOther_42 : decode cX6_firstOther 42 = .ok (.iadd, 1) := by decide +kernel
theorem dX6_firstOther_43 : decode cX6_firstOther 43 = .ok (.iaload, 1) := by decide +kernel
theorem dX6_firstOther_44 : decode cX6_firstOther 44 = .ok (.if_icmp .eq 5, 3) := by decide +kernel
theorem dX6_firstOther_47 : decode cX6_firstOther 47 = .ok (.iload_n 2, 1) := by decide +kernel
theorem dX6_firstOther_48 : decode cX6_firstOther 48 = .ok (.ireturn, 1) := by decide +kernel
theorem dX6_firstOther_49 : decode cX6_firstOther 49 = .ok (.iinc 2 1, 3) := by decide +kernel
theorem dX6_firstOther_52 : decode cX6_firstOther 52 = .ok (.goto (-50), 3) := by decide +kernel
theorem dX6_firstOther_55 : decode cX6_firstOther 55 = .ok (.iconst (-1), 1) := by decide +kernel
theorem dX6_firstOther_56 : decode cX6_firstOther 56 = .ok (.ireturn, 1) := by decide +kernel
theorem dX6_tells_0 : decode cX6_tells 0 = .ok (.iload_n 1, 1) := by decide +kernel
theorem dX6_tells_1 : decode cX6_tells 1 = .ok (.invokestatic 318, 3) := by decide +kernel
theorem dX6_tells_4 : decode cX6_tells 4 = .ok (.ifCond .eq 23, 3) := by decide +kernel
theorem dX6_tells_7 : decode cX6_tells 7 = .ok (.aload_n 0, 1) := by decide +kernel
theorem dX6_tells_8 : decode cX6_tells 8 = .ok (.iload_n 2, 1) := by decide +kernel
theorem dX6_tells_9 : decode cX6_tells 9 = .ok (.invokevirtual 74, 3) := by decide +kernel
theorem dX6_tells_12 : decode cX6_tells 12 = .ok (.ifCond .eq 15, 3) := by decide +kernel
theorem dX6_tells_15 : decode cX6_tells 15 = .ok (.iload_n 3, 1) := by decide +kernel
theorem dX6_tells_16 : decode cX6_tells 16 = .ok (.i2l, 1) := by decide +kernel
theorem dX6_tells_17 : decode cX6_tells 17 = .ok (.lconst 0, 1) := by decide +kernel
theorem dX6_tells_18 : decode cX6_tells 18 = .ok (.ldc2_w 321, 3) := by decide +kernel
theorem dX6_tells_21 : decode cX6_tells 21 = .ok (.invokestatic 70, 3) := by decide +kernel
theorem dX6_tells_24 : decode cX6_tells 24 = .ok (.ifCond .ne 6, 3) := by decide +kernel
theorem dX6_tells_27 : decode cX6_tells 27 = .ok (.bipush (-2), 2) := by decide +kernel
theorem dX6_tells_29 : decode cX6_tells 29 = .ok (.ireturn, 1) := by decide +kernel
theorem dX6_tells_30 : decode cX6_tells 30 = .ok (.aload_n 0, 1) := by decide +kernel
theorem dX6_tells_31 : decode cX6_tells 31 = .ok (.getfield 47, 3) := by decide +kernel
theorem dX6_tells_34 : decode cX6_tells 34 = .ok (.iload_n 1, 1) := by decide +kernel
theorem dX6_tells_35 : decode cX6_tells 35 = .ok (.baload, 1) := by decide +kernel
theorem dX6_tells_36 : decode cX6_tells 36 = .ok (.ifCond .ne 6, 3) := by decide +kernel
theorem dX6_tells_39 : decode cX6_tells 39 = .ok (.bipush (-11), 2) := by decide +kernel
theorem dX6_tells_41 : decode cX6_tells 41 = .ok (.ireturn, 1) := by decide +kernel
theorem dX6_tells_42 : decode cX6_tells 42 = .ok (.aload_n 0, 1) := by decide +kernel
theorem dX6_tells_43 : decode cX6_tells 43 = .ok (.getfield 54, 3) := by decide +kernel
theorem dX6_tells_46 : decode cX6_tells 46 = .ok (.iload_n 1, 1) := by decide +kernel
theorem dX6_tells_47 : decode cX6_tells 47 = .ok (.iaload, 1) := by decide +kernel
theorem dX6_tells_48 : decode cX6_tells 48 = .ok (.bipush 6, 2) := by decide +kernel
theorem dX6_tells_50 : decode cX6_tells 50 = .ok (.if_icmp .le 6, 3) := by decide +kernel
theorem dX6_tells_53 : decode cX6_tells 53 = .ok (.bipush (-2), 2) := by decide +kernel
theorem dX6_tells_55 : decode cX6_tells 55 = .ok (.ireturn, 1) := by decide +kernel
theorem dX6_tells_56 : decode cX6_tells 56 = .ok (.iload_n 3, 1) := by decide +kernel
theorem dX6_tells_57 : decode cX6_tells 57 = .ok (.ifCond .ne 9, 3) := by decide +kernel
theorem dX6_tells_60 : decode cX6_tells 60 = .ok (.aload_n 0, 1) := by decide +kernel
theorem dX6_tells_61 : decode cX6_tells 61 = .ok (.iload_n 1, 1) := by decide +kernel
theorem dX6_tells_62 : decode cX6_tells 62 = .ok (.invokevirtual 323, 3) := by decide +kernel
theorem dX6_tells_65 : decode cX6_tells 65 = .ok (.ireturn, 1) := by decide +kernel
theorem dX6_tells_66 : decode cX6_tells 66 = .ok (.iload_n 3, 1) := by decide +kernel
theorem dX6_tells_67 : decode cX6_tells 67 = .ok (.iconst 1, 1) := by decide +kernel
theorem dX6_tells_68 : decode cX6_tells 68 = .ok (.if_icmp .ne 7, 3) := by decide +kernel
theorem dX6_tells_71 : decode cX6_tells 71 = .ok (.iconst 4, 1) := by decide +kernel
theorem dX6_tells_72 : decode cX6_tells 72 = .ok (.goto 32, 3) := by decide +kernel
theorem dX6_tells_75 : decode cX6_tells 75 = .ok (.iload_n 3, 1) := by decide +kernel
theorem dX6_tells_76 : decode cX6_tells 76 = .ok (.iconst 2, 1) := by decide +kernel
theorem dX6_tells_77 : decode cX6_tells 77 = .ok (.if_icmp .ne 7, 3) := by decide +kernel
theorem dX6_tells_80 : decode cX6_tells 80 = .ok (.iconst 2, 1) := by decide +kernel
theorem dX6_tells_81 : decode cX6_tells 81 = .ok (.goto 23, 3) := by decide +kernel
theorem dX6_tells_84 : decode cX6_tells 84 = .ok (.iload_n 3, 1) := by decide +kernel
theorem dX6_tells_85 : decode cX6_tells 85 = .ok (.iconst 5, 1) := by decide +kernel
theorem dX6_tells_86 : decode cX6_tells 86 = .ok (.if_icmp .ge 7, 3) := by decide +kernel
theorem dX6_tells_89 : decode cX6_tells 89 = .ok (.iconst 3, 1) := by decide +kernel
theorem dX6_tells_90 : decode cX6_tells 90 = .ok (.goto 14, 3) := by decide +kernel
theorem dX6_tells_93 : decode cX6_tells 93 = .ok (.iload_n 3, 1) := by decide +kernel
theorem dX6_tells_94 : decode cX6_tells 94 = .ok (.bipush 7, 2) := by decide +kernel
theorem dX6_tells_96 : decode cX6_tells 96 = .ok (.if_icmp .ge 7, 3) := by decide +kernel
theorem dX6_tells_99 : decode cX6_tells 99 = .ok (.iconst 1, 1) := by decide +kernel
theorem dX6_tells_100 : decode cX6_tells 100 = .ok (.goto 4, 3) := by decide +kernel
theorem dX6_tells_103 : decode cX6_tells 103 = .ok (.iconst 5, 1) := by decide +kernel
theorem dX6_tells_104 : decode cX6_tells 104 = .ok (.istore 4, 2) := by decide +kernel
theorem dX6_tells_106 : decode cX6_tells 106 = .ok (.iload 4, 2) := by decide +kernel
theorem dX6_tells_108 : decode cX6_tells 108 = .ok (.iconst 5, 1) := by decide +kernel
theorem dX6_tells_109 : decode cX6_tells 109 = .ok (.if_icmp .ne 10, 3) := by decide +kernel
theorem dX6_tells_112 : decode cX6_tells 112 = .ok (.aload_n 0, 1) := by decide +kernel
theorem dX6_tells_113 : decode cX6_tells 113 = .ok (.getfield 108, 3) := by decide +kernel
theorem dX6_tells_116 : decode cX6_tells 116 = .ok (.goto 10, 3) := by decide +kernel
theorem dX6_tells_119 : decode cX6_tells 119 = .ok (.aload_n 0, 1) := by decide +kernel
theorem dX6_tells_120 : decode cX6_tells 120 = .ok (.iload_n 2, 1) := by decide +kernel
theorem dX6_tells_121 : decode cX6_tells 121 = .ok (.iload 4, 2) := by decide +kernel
theorem dX6_tells_123 : decode cX6_tells 123 = .ok (.invokevirtual 94, 3) := by decide +kernel
theorem dX6_tells_126 : decode cX6_tells 126 = .ok (.istore 5, 2) := by decide +kernel
theorem dX6_tells_128 : decode cX6_tells 128 = .ok (.iload 4, 2) := by decide +kernel
theorem dX6_tells_130 : decode cX6_tells 130 = .ok (.iconst 5, 1) := by decide +kernel
theorem dX6_tells_131 : decode cX6_tells 131 = .ok (.if_icmp .ne 12, 3) := by decide +kernel
theorem dX6_tells_134 : decode cX6_tells 134 = .ok (.aload_n 0, 1) := by decide +kernel
theorem dX6_tells_135 : decode cX6_tells 135 = .ok (.getfield 64, 3) := by decide +kernel
theorem dX6_tells_138 : decode cX6_tells 138 = .ok (.iconst 1, 1) := by decide +kernel
theorem dX6_tells_139 : decode cX6_tells 139 = .ok (.isub, 1) := by decide +kernel
theorem dX6_tells_140 : decode cX6_tells 140 = .ok (.goto 26, 3) := by decide +kernel
theorem dX6_tells_143 : decode cX6_tells 143 = .ok (.iload 4, 2) := by decide +kernel
theorem dX6_tells_145 : decode cX6_tells 145 = .ok (.iconst 4, 1) := by decide +kernel
theorem dX6_tells_146 : decode cX6_tells 146 = .ok (.if_icmp .ne 7, 3) := by decide +kernel
theorem dX6_tells_149 : decode cX6_tells 149 = .ok (.iconst 5, 1) := by decide +kernel
theorem dX6_tells_150 : decode cX6_tells 150 = .ok (.goto 16, 3) := by decide +kernel
theorem dX6_tells_153 : decode cX6_tells 153 = .ok (.iload 4, 2) := by decide +kernel
theorem dX6_tells_155 : decode cX6_tells 155 = .ok (.iconst 2, 1) := by decide +kernel
theorem dX6_tells_156 : decode cX6_tells 156 = .ok (.if_icmp .ne 8, 3) := by decide +kernel
theorem dX6_tells_159 : decode cX6_tells 159 = .ok (.bipush 9, 2) := by decide +kernel
theorem dX6_tells_161 : decode cX6_tells 161 = .ok (.goto 5, 3) := by decide +kernel
theorem dX6_tells_164 : decode cX6_tells 164 = .ok (.bipush 99, 2) := by decide +kernel
theorem dX6_tells_166 : decode cX6_tells 166 = .ok (.istore 6, 2) := by decide +kernel
theorem dX6_tells_168 : decode cX6_tells 168 = .ok (.iconst 0, 1) := by decide +kernel
theorem dX6_tells_169 : decode cX6_tells 169 = .ok (.istore 7, 2) := by decide +kernel
theorem dX6_tells_171 : decode cX6_tells 171 = .ok (.iconst 0, 1) := by decide +kernel
theorem dX6_tells_172 : decode cX6_tells 172 = .ok (.istore 8, 2) := by decide +kernel
theorem dX6_tells_174 : decode cX6_tells 174 = .ok (.iconst (-1), 1) := by decide +kernel
theorem dX6_tells_175 : decode cX6_tells 175 = .ok (.istore 9, 2) := by decide +kernel
theorem dX6_tells_177 : decode cX6_tells 177 = .ok (.iload 6, 2) := by decide +kernel
theorem dX6_tells_179 : decode cX6_tells 179 = .ok (.istore 10, 2) := by decide +kernel
theorem dX6_tells_181 : decode cX6_tells 181 = .ok (.iload 10, 2) := by decide +kernel
theorem dX6_tells_183 : decode cX6_tells 183 = .ok (.ifCond .lt 54, 3) := by decide +kernel
theorem dX6_tells_186 : decode cX6_tells 186 = .ok (.aload_n 0, 1) := by decide +kernel
theorem dX6_tells_187 : decode cX6_tells 187 = .ok (.iload 4, 2) := by decide +kernel
theorem dX6_tells_189 : decode cX6_tells 189 = .ok (.iload_n 2, 1) := by decide +kernel
theorem dX6_tells_190 : decode cX6_tells 190 = .ok (.iload 10, 2) := by decide +kernel
theorem dX6_tells_192 : decode cX6_tells 192 = .ok (.invokevirtual 98, 3) := by decide +kernel
theorem dX6_tells_195 : decode cX6_tells 195 = .ok (.aload_n 0, 1) := by decide +kernel
theorem dX6_tells_196 : decode cX6_tells 196 = .ok (.iload_n 1, 1) := by decide +kernel
theorem dX6_tells_197 : decode cX6_tells 197 = .ok (.invokevirtual 323, 3) := by decide +kernel
theorem dX6_tells_200 : decode cX6_tells 200 = .ok (.iconst (-1), 1) := by decide +kernel
theorem dX6_tells_201 : decode cX6_tells 201 = .ok (.if_icmp .ne 30, 3) := by decide +kernel
theorem dX6_tells_204 : decode cX6_tells 204 = .ok (.iload 7, 2) := by decide +kernel
theorem dX6_tells_206 : decode cX6_tells 206 = .ok (.iload 10, 2) := by decide +kernel
theorem dX6_tells_208 : decode cX6_tells 208 = .ok (.bipush 10, 2) := by decide +kernel
theorem dX6_tells_210 : decode cX6_tells 210 = .ok (.if_icmp .ge 10, 3) := by decide +kernel
theorem dX6_tells_213 : decode cX6_tells 213 = .ok (.iconst 1, 1) := by decide +kernel
theorem dX6_tells_214 : decode cX6_tells 214 = .ok (.iload 10, 2) := by decide +kernel
theorem dX6_tells_216 : decode cX6_tells 216 = .ok (.ishl, 1) := by decide +kernel
theorem dX6_tells_217 : decode cX6_tells 217 = .ok (.goto 4, 3) := by decide +kernel
theorem dX6_tells_220 : decode cX6_tells 220 = .ok (.iconst 0, 1) := by decide +kernel
theorem dX6_tells_221 : decode cX6_tells 221 = .ok (.ior, 1) := by decide +kernel
theorem dX6_tells_222 : decode cX6_tells 222 = .ok (.istore 7, 2) := by decide +kernel
theorem dX6_tells_224 : decode cX6_tells 224 = .ok (.iinc 8 1, 3) := by decide +kernel
theorem dX6_tells_227 : decode cX6_tells 227 = .ok (.iload 10, 2) := by decide +kernel
theorem dX6_tells_229 : decode cX6_tells 229 = .ok (.istore 9, 2) := by decide +kernel
theorem dX6_tells_231 : decode cX6_tells 231 = .ok (.iinc 10 (-1), 3) := by decide +kernel
theorem dX6_tells_234 : decode cX6_tells 234 = .ok (.goto (-53), 3) := by decide +kernel
theorem dX6_tells_237 : decode cX6_tells 237 = .ok (.aload_n 0, 1) := by decide +kernel
theorem dX6_tells_238 : decode cX6_tells 238 = .ok (.iload 4, 2) := by decide +kernel
theorem dX6_tells_240 : decode cX6_tells 240 = .ok (.iload_n 2, 1) := by decide +kernel
theorem dX6_tells_241 : decode cX6_tells 241 = .ok (.iload 5, 2) := by decide +kernel
theorem dX6_tells_243 : decode cX6_tells 243 = .ok (.invokevirtual 98, 3) := by decide +kernel
theorem dX6_tells_246 : decode cX6_tells 246 = .ok (.iload_n 3, 1) := by decide +kernel
theorem dX6_tells_247 : decode cX6_tells 247 = .ok (.iconst 3, 1) := by decide +kernel
theorem dX6_tells_248 : decode cX6_tells 248 = .ok (.if_icmp .eq 8, 3) := by decide +kernel
theorem dX6_tells_251 : decode cX6_tells 251 = .ok (.iload_n 3, 1) := by decide +kernel
theorem dX6_tells_252 : decode cX6_tells 252 = .ok (.iconst 5, 1) := by decide +kernel
theorem dX6_tells_253 : decode cX6_tells 253 = .ok (.if_icmp .ne 8, 3) := by decide +kernel
theorem dX6_tells_256 : decode cX6_tells 256 = .ok (.iload 8, 2) := by decide +kernel
theorem dX6_tells_258 : decode cX6_tells 258 = .ok (.goto 21, 3) := by decide +kernel
theorem dX6_tells_261 : decode cX6_tells 261 = .ok (.iload_n 3, 1) := by decide +kernel
theorem dX6_tells_262 : decode cX6_tells 262 = .ok (.iconst 4, 1) := by decide +kernel
theorem dX6_tells_263 : decode cX6_tells 263 = .ok (.if_icmp .eq 9, 3) := by decide +kernel
theorem dX6_tells_266 : decode cX6_tells 266 = .ok (.iload_n 3, 1) := by decide +kernel
theorem dX6_tells_267 : decode cX6_tells 267 = .ok (.bipush 6, 2) := by decide +kernel
theorem dX6_tells_269 : decode cX6_tells 269 = .ok (.if_icmp .ne 8, 3) := by decide +kernel
theorem dX6_tells_272 : decode cX6_tells 272 = .ok (.iload 9, 2) := by decide +kernel
theorem dX6_tells_274 : decode cX6_tells 274 = .ok (.goto 5, 3) := by decide +kernel
theorem dX6_tells_277 : decode cX6_tells 277 = .ok (.iload 7, 2) := by decide +kernel
theorem dX6_tells_279 : decode cX6_tells 279 = .ok (.ireturn, 1) := by decide +kernel
theorem dX6_film_0 : decode cX6_film 0 = .ok (.iload_n 1, 1) := by decide +kernel
theorem dX6_film_1 : decode cX6_film 1 = .ok (.invokestatic 318, 3) := by decide +kernel
theorem dX6_film_4 : decode cX6_film 4 = .ok (.ifCond .ne 6, 3) := by decide +kernel
theorem dX6_film_7 : decode cX6_film 7 = .ok (.bipush (-2), 2) := by decide +kernel
theorem dX6_film_9 : decode cX6_film 9 = .ok (.ireturn, 1) := by decide +kernel
theorem dX6_film_10 : decode cX6_film 10 = .ok (.aload_n 0, 1) := by decide +kernel
theorem dX6_film_11 : decode cX6_film 11 = .ok (.getfield 78, 3) := by decide +kernel
theorem dX6_film_14 : decode cX6_film 14 = .ok (.iconst 1, 1) := by decide +kernel
theorem dX6_film_15 : decode cX6_film 15 = .ok (.if_icmp .le 10, 3) := by decide +kernel
theorem dX6_film_18 : decode cX6_film 18 = .ok (.aload_n 0, 1) := by decide +kernel
theorem dX6_film_19 : decode cX6_film 19 = .ok (.getfield 78, 3) := by decide +kernel
theorem dX6_film_22 : decode cX6_film 22 = .ok (.goto 4, 3) := by decide +kernel
theorem dX6_film_25 : decode cX6_film 25 = .ok (.iconst 0, 1) := by decide +kernel
theorem dX6_film_26 : decode cX6_film 26 = .ok (.istore_n 2, 1) := by decide +kernel
theorem dX6_film_27 : decode cX6_film 27 = .ok (.aload_n 0, 1) := by decide +kernel
theorem dX6_film_28 : decode cX6_film 28 = .ok (.iload_n 1, 1) := by decide +kernel
theorem dX6_film_29 : decode cX6_film 29 = .ok (.iconst 0, 1) := by decide +kernel
theorem dX6_film_30 : decode cX6_film 30 = .ok (.iload_n 2, 1) := by decide +kernel
theorem dX6_film_31 : decode cX6_film 31 = .ok (.invokevirtual 326, 3) := by decide +kernel
theorem dX6_film_34 : decode cX6_film 34 = .ok (.pop, 1) := by decide +kernel
theorem dX6_film_35 : decode cX6_film 35 = .ok (.iconst 0, 1) := by decide +kernel
theorem dX6_film_36 : decode cX6_film 36 = .ok (.istore_n 3, 1) := by decide +kernel
theorem dX6_film_37 : decode cX6_film 37 = .ok (.iload_n 3, 1) := by decide +kernel
theorem dX6_film_38 : decode cX6_film 38 = .ok (.iload_n 2, 1) := by decide +kernel
theorem dX6_film_39 : decode cX6_film 39 = .ok (.if_icmp .ge 25, 3) := by decide +kernel
theorem dX6_film_42 : decode cX6_film 42 = .ok (.aload_n 0, 1) := by decide +kernel
theorem dX6_film_43 : decode cX6_film 43 = .ok (.getfield 57, 3) := by decide +kernel
theorem dX6_film_46 : decode cX6_film 46 = .ok (.bipush 40, 2) := by decide +kernel
theorem dX6_film_48 : decode cX6_film 48 = .ok (.iload_n 1, 1) := by decide +kernel
theorem dX6_film_49 : decode cX6_film 49 = .ok (.imul, 1) := by decide +kernel
theorem dX6_film_50 : decode cX6_film 50 = .ok (.iload_n 3, 1) := by decide +kernel
theorem dX6_film_51 : decode cX6_film 51 = .ok (.iadd, 1) := by decide +kernel
theorem dX6_film_52 : decode cX6_film 52 = .ok (.aload_n 0, 1) := by decide +kernel
theorem dX6_film_53 : decode cX6_film 53 = .ok (.iload_n 3, 1) := by decide +kernel
theorem dX6_film_54 : decode cX6_film 54 = .ok (.invokevirtual 125, 3) := by decide +kernel
theorem dX6_film_57 : decode cX6_film 57 = .ok (.iastore, 1) := by decide +kernel
theorem dX6_film_58 : decode cX6_film 58 = .ok (.iinc 3 1, 3) := by decide +kernel
theorem dX6_film_61 : decode cX6_film 61 = .ok (.goto (-24), 3) := by decide +kernel
theorem dX6_film_64 : decode cX6_film 64 = .ok (.iload_n 2, 1) := by decide +kernel
theorem dX6_film_65 : decode cX6_film 65 = .ok (.ireturn, 1) := by decide +kernel
theorem dX6_weakestDrawn_0 : decode cX6_weakestDrawn 0 = .ok (.iconst 0, 1) := by decide +kernel
theorem dX6_weakestDrawn_1 : decode cX6_weakestDrawn 1 = .ok (.istore_n 3, 1) := by decide +kernel
theorem dX6_weakestDrawn_2 : decode cX6_weakestDrawn 2 = .ok (.iload_n 3, 1) := by decide +kernel
theorem dX6_weakestDrawn_3 : decode cX6_weakestDrawn 3 = .ok (.aload_n 0, 1) := by decide +kernel
theorem dX6_weakestDrawn_4 : decode cX6_weakestDrawn 4 = .ok (.getfield 78, 3) := by decide +kernel
theorem dX6_weakestDrawn_7 : decode cX6_weakestDrawn 7 = .ok (.if_icmp .ge 21, 3) := by decide +kernel
theorem dX6_weakestDrawn_10 : decode cX6_weakestDrawn 10 = .ok (.aload_n 0, 1) := by decide +kernel
theorem dX6_weakestDrawn_11 : decode cX6_weakestDrawn 11 = .ok (.getfield 35, 3) := by decide +kernel
theorem dX6_weakestDrawn_14 : decode cX6_weakestDrawn 14 = .ok (.iload_n 3, 1) := by decide +kernel
theorem dX6_weakestDrawn_15 : decode cX6_weakestDrawn 15 = .ok (.aload_n 0, 1) := by decide +kernel
theorem dX6_weakestDrawn_16 : decode cX6_weakestDrawn 16 = .ok (.getfield 26, 3) := by decide +kernel
theorem dX6_weakestDrawn_19 : decode cX6_weakestDrawn 19 = .ok (.iload_n 3, 1) := by decide +kernel
theorem dX6_weakestDrawn_20 : decode cX6_weakestDrawn 20 = .ok (.iaload, 1) := by decide +kernel
theorem dX6_weakestDrawn_21 : decode cX6_weakestDrawn 21 = .ok (.iastore, 1) := by decide +kernel
theorem dX6_weakestDrawn_22 : decode cX6_weakestDrawn 22 = .ok (.iinc 3 1, 3) := by decide +kernel
theorem dX6_weakestDrawn_25 : decode cX6_weakestDrawn 25 = .ok (.goto (-23), 3) := by decide +kernel
theorem dX6_weakestDrawn_28 : decode cX6_weakestDrawn 28 = .ok (.iload_n 1, 1) := by decide +kernel
theorem dX6_weakestDrawn_29 : decode cX6_weakestDrawn 29 = .ok (.istore_n 3, 1) := by decide +kernel
theorem dX6_weakestDrawn_30 : decode cX6_weakestDrawn 30 = .ok (.iconst 0, 1) := by decide +kernel
theorem dX6_weakestDrawn_31 : decode cX6_weakestDrawn 31 = .ok (.istore 4, 2) := by decide +kernel
theorem dX6_weakestDrawn_33 : decode cX6_weakestDrawn 33 = .ok (.iload 4, 2) := by decide +kernel
theorem dX6_weakestDrawn_35 : decode cX6_weakestDrawn 35 = .ok (.iload_n 2, 1) := by decide +kernel
theorem dX6_weakestDrawn_36 : decode cX6_weakestDrawn 36 = .ok (.if_icmp .ge 73, 3) := by decide +kernel
theorem dX6_weakestDrawn_39 : decode cX6_weakestDrawn 39 = .ok (.iload_n 3, 1) := by decide +kernel
theorem dX6_weakestDrawn_40 : decode cX6_weakestDrawn 40 = .ok (.ldc_w 329, 3) := by decide +kernel
theorem dX6_weakestDrawn_43 : decode cX6_weakestDrawn 43 = .ok (.imul, 1) := by decide +kernel
theorem dX6_weakestDrawn_44 : decode cX6_weakestDrawn 44 = .ok (.sipush 12345, 3) := by decide +kernel
theorem dX6_weakestDrawn_47 : decode cX6_weakestDrawn 47 = .ok (.iadd, 1) := by decide +kernel
theorem dX6_weakestDrawn_48 : decode cX6_weakestDrawn 48 = .ok (.istore_n 3, 1) := by decide +kernel
theorem dX6_weakestDrawn_49 : decode cX6_weakestDrawn 49 = .ok (.iload_n 3, 1) := by decide +kernel
theorem dX6_weakestDrawn_50 : decode cX6_weakestDrawn 50 = .ok (.bipush 9, 2) := by decide +kernel
theorem dX6_weakestDrawn_52 : decode cX6_weakestDrawn 52 = .ok (.iushr, 1) := by decide +kernel
theorem dX6_weakestDrawn_53 : decode cX6_weakestDrawn 53 = .ok (.bipush 8, 2) := by decide +kernel
theorem dX6_weakestDrawn_55 : decode cX6_weakestDrawn 55 = .ok (.irem, 1) := by decide +kernel
theorem dX6_weakestDrawn_56 : decode cX6_weakestDrawn 56 = .ok (.istore 5, 2) := by decide +kernel
theorem dX6_weakestDrawn_58 : decode cX6_weakestDrawn 58 = .ok (.iload_n 3, 1) := by decide +kernel
theorem dX6_weakestDrawn_59 : decode cX6_weakestDrawn 59 = .ok (.ldc_w 329, 3) := by decide +kernel
theorem dX6_weakestDrawn_62 : decode cX6_weakestDrawn 62 = .ok (.imul, 1) := by decide +kernel
theorem dX6_weakestDrawn_63 : decode cX6_weakestDrawn 63 = .ok (.sipush 12345, 3) := by decide +kernel
theorem dX6_weakestDrawn_66 : decode cX6_weakestDrawn 66 = .ok (.iadd, 1) := by decide +kernel
theorem dX6_weakestDrawn_67 : decode cX6_weakestDrawn 67 = .ok (.istore_n 3, 1) := by decide +kernel
theorem dX6_weakestDrawn_68 : decode cX6_weakestDrawn 68 = .ok (.iload_n 3, 1) := by decide +kernel
theorem dX6_weakestDrawn_69 : decode cX6_weakestDrawn 69 = .ok (.bipush 9, 2) := by decide +kernel
theorem dX6_weakestDrawn_71 : decode cX6_weakestDrawn 71 = .ok (.iushr, 1) := by decide +kernel
theorem dX6_weakestDrawn_72 : decode cX6_weakestDrawn 72 = .ok (.bipush 8, 2) := by decide +kernel
theorem dX6_weakestDrawn_74 : decode cX6_weakestDrawn 74 = .ok (.irem, 1) := by decide +kernel
theorem dX6_weakestDrawn_75 : decode cX6_weakestDrawn 75 = .ok (.istore 6, 2) := by decide +kernel
theorem dX6_weakestDrawn_77 : decode cX6_weakestDrawn 77 = .ok (.aload_n 0, 1) := by decide +kernel
theorem dX6_weakestDrawn_78 : decode cX6_weakestDrawn 78 = .ok (.iload 5, 2) := by decide +kernel
theorem dX6_weakestDrawn_80 : decode cX6_weakestDrawn 80 = .ok (.invokevirtual 81, 3) := by decide +kernel
theorem dX6_weakestDrawn_83 : decode cX6_weakestDrawn 83 = .ok (.ifCond .eq 20, 3) := by decide +kernel
theorem dX6_weakestDrawn_86 : decode cX6_weakestDrawn 86 = .ok (.aload_n 0, 1) := by decide +kernel
theorem dX6_weakestDrawn_87 : decode cX6_weakestDrawn 87 = .ok (.iload 6, 2) := by decide +kernel
theorem dX6_weakestDrawn_89 : decode cX6_weakestDrawn 89 = .ok (.invokevirtual 81, 3) := by decide +kernel
theorem dX6_weakestDrawn_92 : decode cX6_weakestDrawn 92 = .ok (.ifCond .eq 11, 3) := by decide +kernel
theorem dX6_weakestDrawn_95 : decode cX6_weakestDrawn 95 = .ok (.aload_n 0, 1) := by decide +kernel
theorem dX6_weakestDrawn_96 : decode cX6_weakestDrawn 96 = .ok (.iload 5, 2) := by decide +kernel
theorem dX6_weakestDrawn_98 : decode cX6_weakestDrawn 98 = .ok (.iload 6, 2) := by decide +kernel
theorem dX6_weakestDrawn_100 : decode cX6_weakestDrawn 100 = .ok (.invokevirtual 279, 3) := by decide +kernel
theorem dX6_weakestDrawn_103 : decode cX6_weakestDrawn 103 = .ok (.iinc 4 1, 3) := by decide +kernel
theorem dX6_weakestDrawn_106 : decode cX6_weakestDrawn 106 = .ok (.goto (-73), 3) := by decide +kernel
theorem dX6_weakestDrawn_109 : decode cX6_weakestDrawn 109 = .ok (.aload_n 0, 1) := by decide +kernel
theorem dX6_weakestDrawn_110 : decode cX6_weakestDrawn 110 = .ok (.invokevirtual 262, 3) := by decide +kernel
theorem dX6_weakestDrawn_113 : decode cX6_weakestDrawn 113 = .ok (.istore 4, 2) := by decide +kernel
theorem dX6_weakestDrawn_115 : decode cX6_weakestDrawn 115 = .ok (.iconst 0, 1) := by decide +kernel
theorem dX6_weakestDrawn_116 : decode cX6_weakestDrawn 116 = .ok (.istore 5, 2) := by decide +kernel
theorem dX6_weakestDrawn_118 : decode cX6_weakestDrawn 118 = .ok (.iload 5, 2) := by decide +kernel
theorem dX6_weakestDrawn_120 : decode cX6_weakestDrawn 120 = .ok (.aload_n 0, 1) := by decide +kernel
theorem dX6_weakestDrawn_121 : decode cX6_weakestDrawn 121 = .ok (.getfield 78, 3) := by decide +kernel
theorem dX6_weakestDrawn_124 : decode cX6_weakestDrawn 124 = .ok (.if_icmp .ge 23, 3) := by decide +kernel
theorem dX6_weakestDrawn_127 : decode cX6_weakestDrawn 127 = .ok (.aload_n 0, 1) := by decide +kernel
theorem dX6_weakestDrawn_128 : decode cX6_weakestDrawn 128 = .ok (.getfield 26, 3) := by decide +kernel
theorem dX6_weakestDrawn_131 : decode cX6_weakestDrawn 131 = .ok (.iload 5, 2) := by decide +kernel
theorem dX6_weakestDrawn_133 : decode cX6_weakestDrawn 133 = .ok (.aload_n 0, 1) := by decide +kernel
theorem dX6_weakestDrawn_134 : decode cX6_weakestDrawn 134 = .ok (.getfield 35, 3) := by decide +kernel
theorem dX6_weakestDrawn_137 : decode cX6_weakestDrawn 137 = .ok (.iload 5, 2) := by decide +kernel
theorem dX6_weakestDrawn_139 : decode cX6_weakestDrawn 139 = .ok (.iaload, 1) := by decide +kernel
theorem dX6_weakestDrawn_140 : decode cX6_weakestDrawn 140 = .ok (.iastore, 1) := by decide +kernel
theorem dX6_weakestDrawn_141 : decode cX6_weakestDrawn 141 = .ok (.iinc 5 1, 3) := by decide +kernel
theorem dX6_weakestDrawn_144 : decode cX6_weakestDrawn 144 = .ok (.goto (-26), 3) := by decide +kernel
theorem dX6_weakestDrawn_147 : decode cX6_weakestDrawn 147 = .ok (.iload 4, 2) := by decide +kernel
theorem dX6_weakestDrawn_149 : decode cX6_weakestDrawn 149 = .ok (.ireturn, 1) := by decide +kernel
theorem dX6_drawn_0 : decode cX6_drawn 0 = .ok (.iload_n 2, 1) := by decide +kernel
theorem dX6_drawn_1 : decode cX6_drawn 1 = .ok (.i2l, 1) := by decide +kernel
theorem dX6_drawn_2 : decode cX6_drawn 2 = .ok (.lconst 0, 1) := by decide +kernel
theorem dX6_drawn_3 : decode cX6_drawn 3 = .ok (.ldc2_w 287, 3) := by decide +kernel
theorem dX6_drawn_6 : decode cX6_drawn 6 = .ok (.invokestatic 70, 3) := by decide +kernel
theorem dX6_drawn_9 : decode cX6_drawn 9 = .ok (.ifCond .eq 12, 3) := by decide +kernel
theorem dX6_drawn_12 : decode cX6_drawn 12 = .ok (.aload_n 0, 1) := by decide +kernel
theorem dX6_drawn_13 : decode cX6_drawn 13 = .ok (.iload_n 1, 1) := by decide +kernel
theorem dX6_drawn_14 : decode cX6_drawn 14 = .ok (.iload_n 2, 1) := by decide +kernel
theorem dX6_drawn_15 : decode cX6_drawn 15 = .ok (.invokevirtual 330, 3) := by decide +kernel
theorem dX6_drawn_18 : decode cX6_drawn 18 = .ok (.goto 5, 3) := by decide +kernel
theorem dX6_drawn_21 : decode cX6_drawn 21 = .ok (.bipush (-2), 2) := by decide +kernel
theorem dX6_drawn_23 : decode cX6_drawn 23 = .ok (.ireturn, 1) := by decide +kernel
theorem dX6_chance_0 : decode cX6_chance 0 = .ok (.iload_n 2, 1) := by decide +kernel
theorem dX6_chance_1 : decode cX6_chance 1 = .ok (.i2l, 1) := by decide +kernel
theorem dX6_chance_2 : decode cX6_chance 2 = .ok (.lconst 1, 1) := by decide +kernel
theorem dX6_chance_3 : decode cX6_chance 3 = .ok (.ldc2_w 287, 3) := by decide +kernel
theorem dX6_chance_6 : decode cX6_chance 6 = .ok (.invokestatic 70, 3) := by decide +kernel
theorem dX6_chance_9 : decode cX6_chance 9 = .ok (.ifCond .eq 26, 3) := by decide +kernel
theorem dX6_chance_12 : decode cX6_chance 12 = .ok (.iload_n 3, 1) := by decide +kernel
theorem dX6_chance_13 : decode cX6_chance 13 = .ok (.i2l, 1) := by decide +kernel
theorem dX6_chance_14 : decode cX6_chance 14 = .ok (.lconst 0, 1) := by decide +kernel
theorem dX6_chance_15 : decode cX6_chance 15 = .ok (.ldc2_w 115, 3) := by decide +kernel
theorem dX6_chance_18 : decode cX6_chance 18 = .ok (.invokestatic 70, 3) := by decide +kernel
theorem dX6_chance_21 : decode cX6_chance 21 = .ok (.ifCond .eq 14, 3) := by decide +kernel
theorem dX6_chance_24 : decode cX6_chance 24 = .ok (.iload 4, 2) := by decide +kernel
theorem dX6_chance_26 : decode cX6_chance 26 = .ok (.i2l, 1) := by decide +kernel
theorem dX6_chance_27 : decode cX6_chance 27 = .ok (.lconst 0, 1) := by decide +kernel
theorem dX6_chance_28 : decode cX6_chance 28 = .ok (.lconst 1, 1) := by decide +kernel
theorem dX6_chance_29 : decode cX6_chance 29 = .ok (.invokestatic 70, 3) := by decide +kernel
theorem dX6_chance_32 : decode cX6_chance 32 = .ok (.ifCond .ne 7, 3) := by decide +kernel
theorem dX6_chance_35 : decode cX6_chance 35 = .ok (.ldc2_w 312, 3) := by decide +kernel
theorem dX6_chance_38 : decode cX6_chance 38 = .ok (.lreturn, 1) := by decide +kernel
theorem dX6_chance_39 : decode cX6_chance 39 = .ok (.lconst 0, 1) := by decide +kernel
theorem dX6_chance_40 : decode cX6_chance 40 = .ok (.lstore 5, 2) := by decide +kernel
theorem dX6_chance_42 : decode cX6_chance 42 = .ok (.iconst 0, 1) := by decide +kernel
theorem dX6_chance_43 : decode cX6_chance 43 = .ok (.istore 7, 2) := by decide +kernel
theorem dX6_chance_45 : decode cX6_chance 45 = .ok (.iload 7, 2) := by decide +kernel
theorem dX6_chance_47 : decode cX6_chance 47 = .ok (.iload_n 2, 1) := by decide +kernel
theorem dX6_chance_48 : decode cX6_chance 48 = .ok (.if_icmp .ge 33, 3) := by decide +kernel
theorem dX6_chance_51 : decode cX6_chance 51 = .ok (.lload 5, 2) := by decide +kernel
theorem dX6_chance_53 : decode cX6_chance 53 = .ok (.aload_n 0, 1) := by decide +kernel
theorem dX6_chance_54 : decode cX6_chance 54 = .ok (.iload_n 1, 1) := by decide +kernel
theorem dX6_chance_55 : decode cX6_chance 55 = .ok (.iload 7, 2) := by decide +kernel
theorem dX6_chance_57 : decode cX6_chance 57 = .ok (.iadd, 1) := by decide +kernel
theorem dX6_chance_58 : decode cX6_chance 58 = .ok (.bipush 6, 2) := by decide +kernel
theorem dX6_chance_60 : decode cX6_chance 60 = .ok (.invokevirtual 330, 3) := by decide +kernel
theorem dX6_chance_63 : decode cX6_chance 63 = .ok (.iload_n 3, 1) := by decide +kernel
theorem dX6_chance_64 : decode cX6_chance 64 = .ok (.if_icmp .lt 7, 3) := by decide +kernel
theorem dX6_chance_67 : decode cX6_chance 67 = .ok (.lconst 1, 1) := by decide +kernel
theorem dX6_chance_68 : decode cX6_chance 68 = .ok (.goto 4, 3) := by decide +kernel
theorem dX6_chance_71 : decode cX6_chance 71 = .ok (.lconst 0, 1) := by decide +kernel
theorem dX6_chance_72 : decode cX6_chance 72 = .ok (.ladd, 1) := by decide +kernel
theorem dX6_chance_73 : decode cX6_chance 73 = .ok (.lstore 5, 2) := by decide +kernel
theorem dX6_chance_75 : decode cX6_chance 75 = .ok (.iinc 7 1, 3) := by decide +kernel
theorem dX6_chance_78 : decode cX6_chance 78 = .ok (.goto (-33), 3) := by decide +kernel
theorem dX6_chance_81 : decode cX6_chance 81 = .ok (.lload 5, 2) := by decide +kernel
theorem dX6_chance_83 : decode cX6_chance 83 = .ok (.iload_n 2, 1) := by decide +kernel
theorem dX6_chance_84 : decode cX6_chance 84 = .ok (.i2l, 1) := by decide +kernel
theorem dX6_chance_85 : decode cX6_chance 85 = .ok (.iload 4, 2) := by decide +kernel
theorem dX6_chance_87 : decode cX6_chance 87 = .ok (.invokestatic 314, 3) := by decide +kernel
theorem dX6_chance_90 : decode cX6_chance 90 = .ok (.lreturn, 1) := by decide +kernel
theorem dX6_image_0 : decode cX6_image 0 = .ok (.iconst 0, 1) := by decide +kernel
theorem dX6_image_1 : decode cX6_image 1 = .ok (.istore_n 1, 1) := by decide +kernel
theorem dX6_image_2 : decode cX6_image 2 = .ok (.iload_n 1, 1) := by decide +kernel
theorem dX6_image_3 : decode cX6_image 3 = .ok (.bipush 18, 2) := by decide +kernel
theorem dX6_image_5 : decode cX6_image 5 = .ok (.if_icmp .ge 21, 3) := by decide +kernel
theorem dX6_image_8 : decode cX6_image 8 = .ok (.aload_n 0, 1) := by decide +kernel
theorem dX6_image_9 : decode cX6_image 9 = .ok (.getfield 38, 3) := by decide +kernel
theorem dX6_image_12 : decode cX6_image 12 = .ok (.iload_n 1, 1) := by decide +kernel
theorem dX6_image_13 : decode cX6_image 13 = .ok (.aload_n 0, 1) := by decide +kernel
theorem dX6_image_14 : decode cX6_image 14 = .ok (.getfield 23, 3) := by decide +kernel
theorem dX6_image_17 : decode cX6_image 17 = .ok (.iload_n 1, 1) := by decide +kernel
theorem dX6_image_18 : decode cX6_image 18 = .ok (.iaload, 1) := by decide +kernel
theorem dX6_image_19 : decode cX6_image 19 = .ok (.iastore, 1) := by decide +kernel
theorem dX6_image_20 : decode cX6_image 20 = .ok (.iinc 1 1, 3) := by decide +kernel
theorem dX6_image_23 : decode cX6_image 23 = .ok (.goto (-21), 3) := by decide +kernel
theorem dX6_image_26 : decode cX6_image 26 = .ok (.iconst 0, 1) := by decide +kernel
theorem dX6_image_27 : decode cX6_image 27 = .ok (.istore_n 1, 1) := by decide +kernel
theorem dX6_image_28 : decode cX6_image 28 = .ok (.iload_n 1, 1) := by decide +kernel
theorem dX6_image_29 : decode cX6_image 29 = .ok (.bipush 6, 2) := by decide +kernel
theorem dX6_image_31 : decode cX6_image 31 = .ok (.if_icmp .ge 21, 3) := by decide +kernel
theorem dX6_image_34 : decode cX6_image 34 = .ok (.aload_n 0, 1) := by decide +kernel
theorem dX6_image_35 : decode cX6_image 35 = .ok (.getfield 41, 3) := by decide +kernel
theorem dX6_image_38 : decode cX6_image 38 = .ok (.iload_n 1, 1) := by decide +kernel
theorem dX6_image_39 : decode cX6_image 39 = .ok (.aload_n 0, 1) := by decide +kernel
theorem dX6_image_40 : decode cX6_image 40 = .ok (.getfield 26, 3) := by decide +kernel
theorem dX6_image_43 : decode cX6_image 43 = .ok (.iload_n 1, 1) := by decide +kernel
theorem dX6_image_44 : decode cX6_image 44 = .ok (.iaload, 1) := by decide +kernel
theorem dX6_image_45 : decode cX6_image 45 = .ok (.iastore, 1) := by decide +kernel
theorem dX6_image_46 : decode cX6_image 46 = .ok (.iinc 1 1, 3) := by decide +kernel
theorem dX6_image_49 : decode cX6_image 49 = .ok (.goto (-21), 3) := by decide +kernel
theorem dX6_image_52 : decode cX6_image 52 = .ok (.aload_n 0, 1) := by decide +kernel
theorem dX6_image_53 : decode cX6_image 53 = .ok (.aload_n 0, 1) := by decide +kernel
theorem dX6_image_54 : decode cX6_image 54 = .ok (.getfield 67, 3) := by decide +kernel
theorem dX6_image_57 : decode cX6_image 57 = .ok (.putfield 44, 3) := by decide +kernel
theorem dX6_image_60 : decode cX6_image 60 = .ok (.aload_n 0, 1) := by decide +kernel
theorem dX6_image_61 : decode cX6_image 61 = .ok (.aload_n 0, 1) := by decide +kernel
theorem dX6_image_62 : decode cX6_image 62 = .ok (.getfield 78, 3) := by decide +kernel
theorem dX6_image_65 : decode cX6_image 65 = .ok (.putfield 333, 3) := by decide +kernel
theorem dX6_image_68 : decode cX6_image 68 = .ok (.aload_n 0, 1) := by decide +kernel
theorem dX6_image_69 : decode cX6_image 69 = .ok (.aload_n 0, 1) := by decide +kernel
theorem dX6_image_70 : decode cX6_image 70 = .ok (.getfield 102, 3) := by decide +kernel
theorem dX6_image_73 : decode cX6_image 73 = .ok (.putfield 336, 3) := by decide +kernel
theorem dX6_image_76 : decode cX6_image 76 = .ok (.aload_n 0, 1) := by decide +kernel
theorem dX6_image_77 : decode cX6_image 77 = .ok (.aload_n 0, 1) := by decide +kernel
theorem dX6_image_78 : decode cX6_image 78 = .ok (.getfield 105, 3) := by decide +kernel
theorem dX6_image_81 : decode cX6_image 81 = .ok (.putfield 339, 3) := by decide +kernel
theorem dX6_image_84 : decode cX6_image 84 = .ok (.aload_n 0, 1) := by decide +kernel
theorem dX6_image_85 : decode cX6_image 85 = .ok (.aload_n 0, 1) := by decide +kernel
theorem dX6_image_86 : decode cX6_image 86 = .ok (.getfield 108, 3) := by decide +kernel
theorem dX6_image_89 : decode cX6_image 89 = .ok (.putfield 342, 3) := by decide +kernel
theorem dX6_image_92 : decode cX6_image 92 = .ok (.aload_n 0, 1) := by decide +kernel
theorem dX6_image_93 : decode cX6_image 93 = .ok (.getfield 67, 3) := by decide +kernel
theorem dX6_image_96 : decode cX6_image 96 = .ok (.ireturn, 1) := by decide +kernel
theorem dX6_back_0 : decode cX6_back 0 = .ok (.aload_n 0, 1) := by decide +kernel
theorem dX6_back_1 : decode cX6_back 1 = .ok (.getfield 44, 3) := by decide +kernel
theorem dX6_back_4 : decode cX6_back 4 = .ok (.iconst (-1), 1) := by decide +kernel
theorem dX6_back_5 : decode cX6_back 5 = .ok (.if_icmp .ne 6, 3) := by decide +kernel
theorem dX6_back_8 : decode cX6_back 8 = .ok (.bipush (-3), 2) := by decide +kernel
theorem dX6_back_10 : decode cX6_back 10 = .ok (.ireturn, 1) := by decide +kernel
theorem dX6_back_11 : decode cX6_back 11 = .ok (.iconst 0, 1) := by decide +kernel
theorem dX6_back_12 : decode cX6_back 12 = .ok (.istore_n 1, 1) := by decide +kernel
theorem dX6_back_13 : decode cX6_back 13 = .ok (.iload_n 1, 1) := by decide +kernel
theorem dX6_back_14 : decode cX6_back 14 = .ok (.bipush 18, 2) := by decide +kernel
theorem dX6_back_16 : decode cX6_back 16 = .ok (.if_icmp .ge 21, 3) := by decide +kernel
theorem dX6_back_19 : decode cX6_back 19 = .ok (.aload_n 0, 1) := by decide +kernel
theorem dX6_back_20 : decode cX6_back 20 = .ok (.getfield 23, 3) := by decide +kernel
theorem dX6_back_23 : decode cX6_back 23 = .ok (.iload_n 1, 1) := by decide +kernel
theorem dX6_back_24 : decode cX6_back 24 = .ok (.aload_n 0, 1) := by decide +kernel
theorem dX6_back_25 : decode cX6_back 25 = .ok (.getfield 38, 3) := by decide +kernel
theorem dX6_back_28 : decode cX6_back 28 = .ok (.iload_n 1, 1) := by decide +kernel
theorem dX6_back_29 : decode cX6_back 29 = .ok (.iaload, 1) := by decide +kernel
theorem dX6_back_30 : decode cX6_back 30 = .ok (.iastore, 1) := by decide +kernel
theorem dX6_back_31 : decode cX6_back 31 = .ok (.iinc 1 1, 3) := by decide +kernel
theorem dX6_back_34 : decode cX6_back 34 = .ok (.goto (-21), 3) := by decide +kernel
theorem dX6_back_37 : decode cX6_back 37 = .ok (.iconst 0, 1) := by decide +kernel
theorem dX6_back_38 : decode cX6_back 38 = .ok (.istore_n 1, 1) := by decide +kernel
theorem dX6_back_39 : decode cX6_back 39 = .ok (.iload_n 1, 1) := by decide +kernel
theorem dX6_back_40 : decode cX6_back 40 = .ok (.bipush 6, 2) := by decide +kernel
theorem dX6_back_42 : decode cX6_back 42 = .ok (.if_icmp .ge 21, 3) := by decide +kernel
theorem dX6_back_45 : decode cX6_back 45 = .ok (.aload_n 0, 1) := by decide +kernel
theorem dX6_back_46 : decode cX6_back 46 = .ok (.getfield 26, 3) := by decide +kernel
theorem dX6_back_49 : decode cX6_back 49 = .ok (.iload_n 1, 1) := by decide +kernel
theorem dX6_back_50 : decode cX6_back 50 = .ok (.aload_n 0, 1) := by decide +kernel
theorem dX6_back_51 : decode cX6_back 51 = .ok (.getfield 41, 3) := by decide +kernel
theorem dX6_back_54 : decode cX6_back 54 = .ok (.iload_n 1, 1) := by decide +kernel
theorem dX6_back_55 : decode cX6_back 55 = .ok (.iaload, 1) := by decide +kernel
theorem dX6_back_56 : decode cX6_back 56 = .ok (.iastore, 1) := by decide +kernel
theorem dX6_back_57 : decode cX6_back 57 = .ok (.iinc 1 1, 3) := by decide +kernel
theorem dX6_back_60 : decode cX6_back 60 = .ok (.goto (-21), 3) := by decide +kernel
theorem dX6_back_63 : decode cX6_back 63 = .ok (.aload_n 0, 1) := by decide +kernel
theorem dX6_back_64 : decode cX6_back 64 = .ok (.aload_n 0, 1) := by decide +kernel
theorem dX6_back_65 : decode cX6_back 65 = .ok (.getfield 44, 3) := by decide +kernel
theorem dX6_back_68 : decode cX6_back 68 = .ok (.putfield 67, 3) := by decide +kernel
theorem dX6_back_71 : decode cX6_back 71 = .ok (.aload_n 0, 1) := by decide +kernel
theorem dX6_back_72 : decode cX6_back 72 = .ok (.aload_n 0, 1) := by decide +kernel
theorem dX6_back_73 : decode cX6_back 73 = .ok (.getfield 333, 3) := by decide +kernel
theorem dX6_back_76 : decode cX6_back 76 = .ok (.putfield 78, 3) := by decide +kernel
theorem dX6_back_79 : decode cX6_back 79 = .ok (.aload_n 0, 1) := by decide +kernel
theorem dX6_back_80 : decode cX6_back 80 = .ok (.aload_n 0, 1) := by decide +kernel
theorem dX6_back_81 : decode cX6_back 81 = .ok (.getfield 336, 3) := by decide +kernel
theorem dX6_back_84 : decode cX6_back 84 = .ok (.putfield 102, 3) := by decide +kernel
theorem dX6_back_87 : decode cX6_back 87 = .ok (.aload_n 0, 1) := by decide +kernel
theorem dX6_back_88 : decode cX6_back 88 = .ok (.aload_n 0, 1) := by decide +kernel
theorem dX6_back_89 : decode cX6_back 89 = .ok (.getfield 339, 3) := by decide +kernel
theorem dX6_back_92 : decode cX6_back 92 = .ok (.putfield 105, 3) := by decide +kernel
theorem dX6_back_95 : decode cX6_back 95 = .ok (.aload_n 0, 1) := by decide +kernel
theorem dX6_back_96 : decode cX6_back 96 = .ok (.aload_n 0, 1) := by decide +kernel
theorem dX6_back_97 : decode cX6_back 97 = .ok (.getfield 342, 3) := by decide +kernel
theorem dX6_back_100 : decode cX6_back 100 = .ok (.putfield 108, 3) := by decide +kernel
theorem dX6_back_103 : decode cX6_back 103 = .ok (.aload_n 0, 1) := by decide +kernel
theorem dX6_back_104 : decode cX6_back 104 = .ok (.getfield 67, 3) := by decide +kernel
theorem dX6_back_107 : decode cX6_back 107 = .ok (.ireturn, 1) := by decide +kernel
theorem dX6_count_0 : decode cX6_count 0 = .ok (.iload_n 1, 1) := by decide +kernel
theorem dX6_count_1 : decode cX6_count 1 = .ok (.i2l, 1) := by decide +kernel
theorem dX6_count_2 : decode cX6_count 2 = .ok (.lconst 0, 1) := by decide +kernel
theorem dX6_count_3 : decode cX6_count 3 = .ok (.ldc2_w 111, 3) := by decide +kernel
theorem dX6_count_6 : decode cX6_count 6 = .ok (.invokestatic 70, 3) := by decide +kernel
theorem dX6_count_9 : decode cX6_count 9 = .ok (.ifCond .ne 6, 3) := by decide +kernel
theorem dX6_count_12 : decode cX6_count 12 = .ok (.bipush (-2), 2) := by decide +kernel
theorem dX6_count_14 : decode cX6_count 14 = .ok (.ireturn, 1) := by decide +kernel
theorem dX6_count_15 : decode cX6_count 15 = .ok (.iload_n 1, 1) := by decide +kernel
theorem dX6_count_16 : decode cX6_count 16 = .ok (.ifCond .ne 10, 3) := by decide +kernel
theorem dX6_count_19 : decode cX6_count 19 = .ok (.aload_n 0, 1) := by decide +kernel
theorem dX6_count_20 : decode cX6_count 20 = .ok (.getfield 67, 3) := by decide +kernel
theorem dX6_count_23 : decode cX6_count 23 = .ok (.goto 55, 3) := by decide +kernel
theorem dX6_count_26 : decode cX6_count 26 = .ok (.iload_n 1, 1) := by decide +kernel
theorem dX6_count_27 : decode cX6_count 27 = .ok (.iconst 1, 1) := by decide +kernel
theorem dX6_count_28 : decode cX6_count 28 = .ok (.if_icmp .ne 10, 3) := by decide +kernel
theorem dX6_count_31 : decode cX6_count 31 = .ok (.aload_n 0, 1) := by decide +kernel
theorem dX6_count_32 : decode cX6_count 32 = .ok (.getfield 78, 3) := by decide +kernel
theorem dX6_count_35 : decode cX6_count 35 = .ok (.goto 43, 3) := by decide +kernel
theorem dX6_count_38 : decode cX6_count 38 = .ok (.iload_n 1, 1) := by decide +kernel
theorem dX6_count_39 : decode cX6_count 39 = .ok (.iconst 2, 1) := by decide +kernel
theorem dX6_count_40 : decode cX6_count 40 = .ok (.if_icmp .ne 10, 3) := by decide +kernel
theorem dX6_count_43 : decode cX6_count 43 = .ok (.aload_n 0, 1) := by decide +kernel
theorem dX6_count_44 : decode cX6_count 44 = .ok (.getfield 102, 3) := by decide +kernel
theorem dX6_count_47 : decode cX6_count 47 = .ok (.goto 31, 3) := by decide +kernel
theorem dX6_count_50 : decode cX6_count 50 = .ok (.iload_n 1, 1) := by decide +kernel
theorem dX6_count_51 : decode cX6_count 51 = .ok (.iconst 3, 1) := by decide +kernel
theorem dX6_count_52 : decode cX6_count 52 = .ok (.if_icmp .ne 10, 3) := by decide +kernel
theorem dX6_count_55 : decode cX6_count 55 = .ok (.aload_n 0, 1) := by decide +kernel
theorem dX6_count_56 : decode cX6_count 56 = .ok (.getfield 64, 3) := by decide +kernel
theorem dX6_count_59 : decode cX6_count 59 = .ok (.goto 19, 3) := by decide +kernel
theorem dX6_count_62 : decode cX6_count 62 = .ok (.iload_n 1, 1) := by decide +kernel
theorem dX6_count_63 : decode cX6_count 63 = .ok (.iconst 4, 1) := by decide +kernel
theorem dX6_count_64 : decode cX6_count 64 = .ok (.if_icmp .ne 10, 3) := by decide +kernel
theorem dX6_count_67 : decode cX6_count 67 = .ok (.aload_n 0, 1) := by decide +kernel
theorem dX6_count_68 : decode cX6_count 68 = .ok (.getfield 130, 3) := by decide +kernel
theorem dX6_count_71 : decode cX6_count 71 = .ok (.goto 7, 3) := by decide +kernel
theorem dX6_count_74 : decode cX6_count 74 = .ok (.aload_n 0, 1) := by decide +kernel
theorem dX6_count_75 : decode cX6_count 75 = .ok (.getfield 108, 3) := by decide +kernel
theorem dX6_count_78 : decode cX6_count 78 = .ok (.ireturn, 1) := by decide +kernel
theorem dX6_isSheet_0 : decode cX6_isSheet 0 = .ok (.iload_n 0, 1) := by decide +kernel
theorem dX6_isSheet_1 : decode cX6_isSheet 1 = .ok (.i2l, 1) := by decide +kernel
theorem dX6_isSheet_2 : decode cX6_isSheet 2 = .ok (.lconst 0, 1) := by decide +kernel
theorem dX6_isSheet_3 : decode cX6_isSheet 3 = .ok (.ldc2_w 84, 3) := by decide +kernel
theorem dX6_isSheet_6 : decode cX6_isSheet 6 = .ok (.invokestatic 70, 3) := by decide +kernel
theorem dX6_isSheet_9 : decode cX6_isSheet 9 = .ok (.ireturn, 1) := by decide +kernel
theorem dX6_sheet_0 : decode cX6_sheet 0 = .ok (.iload_n 1, 1) := by decide +kernel
theorem dX6_sheet_1 : decode cX6_sheet 1 = .ok (.invokestatic 318, 3) := by decide +kernel
theorem dX6_sheet_4 : decode cX6_sheet 4 = .ok (.ifCond .eq 27, 3) := by decide +kernel
theorem dX6_sheet_7 : decode cX6_sheet 7 = .ok (.iload_n 2, 1) := by decide +kernel
theorem dX6_sheet_8 : decode cX6_sheet 8 = .ok (.i2l, 1) := by decide +kernel
theorem dX6_sheet_9 : decode cX6_sheet 9 = .ok (.ldc2_w 345, 3) := by decide +kernel
theorem dX6_sheet_12 : decode cX6_sheet 12 = .ok (.ldc2_w 285, 3) := by decide +kernel
theorem dX6_sheet_15 : decode cX6_sheet 15 = .ok (.invokestatic 70, 3) := by decide +kernel
theorem dX6_sheet_18 : decode cX6_sheet 18 = .ok (.ifCond .eq 13, 3) := by decide +kernel
theorem dX6_sheet_21 : decode cX6_sheet 21 = .ok (.iload_n 2, 1) := by decide +kernel
theorem dX6_sheet_22 : decode cX6_sheet 22 = .ok (.ifCond .lt 12, 3) := by decide +kernel
theorem dX6_sheet_25 : decode cX6_sheet 25 = .ok (.iload_n 3, 1) := by decide +kernel
theorem dX6_sheet_26 : decode cX6_sheet 26 = .ok (.bipush 40, 2) := by decide +kernel
theorem dX6_sheet_28 : decode cX6_sheet 28 = .ok (.if_icmp .le 6, 3) := by decide +kernel
theorem dX6_sheet_31 : decode cX6_sheet 31 = .ok (.bipush (-2), 2) := by decide +kernel
theorem dX6_sheet_33 : decode cX6_sheet 33 = .ok (.ireturn, 1) := by decide +kernel
theorem dX6_sheet_34 : decode cX6_sheet 34 = .ok (.iload_n 2, 1) := by decide +kernel
theorem dX6_sheet_35 : decode cX6_sheet 35 = .ok (.ifCond .lt 10, 3) := by decide +kernel
theorem dX6_sheet_38 : decode cX6_sheet 38 = .ok (.iload_n 3, 1) := by decide +kernel
theorem dX6_sheet_39 : decode cX6_sheet 39 = .ok (.ifCond .ge 6, 3) := by decide +kernel
theorem dX6_sheet_42 : decode cX6_sheet 42 = .ok (.bipush (-14), 2) := by decide +kernel
theorem dX6_sheet_44 : decode cX6_sheet 44 = .ok (.ireturn, 1) := by decide +kernel
theorem dX6_sheet_45 : decode cX6_sheet 45 = .ok (.aload_n 0, 1) := by decide +kernel
theorem dX6_sheet_46 : decode cX6_sheet 46 = .ok (.getfield 47, 3) := by decide +kernel
theorem dX6_sheet_49 : decode cX6_sheet 49 = .ok (.iload_n 1, 1) := by decide +kernel
theorem dX6_sheet_50 : decode cX6_sheet 50 = .ok (.iload_n 2, 1) := by decide +kernel
theorem dX6_sheet_51 : decode cX6_sheet 51 = .ok (.ifCond .lt 7, 3) := by decide +kernel
theorem dX6_sheet_54 : decode cX6_sheet 54 = .ok (.iconst 1, 1) := by decide +kernel
theorem dX6_sheet_55 : decode cX6_sheet 55 = .ok (.goto 4, 3) := by decide +kernel
theorem dX6_sheet_58 : decode cX6_sheet 58 = .ok (.iconst 0, 1) := by decide +kernel
theorem dX6_sheet_59 : decode cX6_sheet 59 = .ok (.bastore, 1) := by decide +kernel
theorem dX6_sheet_60 : decode cX6_sheet 60 = .ok (.aload_n 0, 1) := by decide +kernel
theorem dX6_sheet_61 : decode cX6_sheet 61 = .ok (.getfield 51, 3) := by decide +kernel
theorem dX6_sheet_64 : decode cX6_sheet 64 = .ok (.iload_n 1, 1) := by decide +kernel
theorem dX6_sheet_65 : decode cX6_sheet 65 = .ok (.iload_n 2, 1) := by decide +kernel
theorem dX6_sheet_66 : decode cX6_sheet 66 = .ok (.iastore, 1) := by decide +kernel
theorem dX6_sheet_67 : decode cX6_sheet 67 = .ok (.aload_n 0, 1) := by decide +kernel
theorem dX6_sheet_68 : decode cX6_sheet 68 = .ok (.getfield 54, 3) := by decide +kernel
theorem dX6_sheet_71 : decode cX6_sheet 71 = .ok (.iload_n 1, 1) := by decide +kernel
theorem dX6_sheet_72 : decode cX6_sheet 72 = .ok (.iload_n 3, 1) := by decide +kernel
theorem dX6_sheet_73 : decode cX6_sheet 73 = .ok (.iastore, 1) := by decide +kernel
theorem dX6_sheet_74 : decode cX6_sheet 74 = .ok (.iconst 0, 1) := by decide +kernel
theorem dX6_sheet_75 : decode cX6_sheet 75 = .ok (.istore 4, 2) := by decide +kernel
theorem dX6_sheet_77 : decode cX6_sheet 77 = .ok (.iload 4, 2) := by decide +kernel
theorem dX6_sheet_79 : decode cX6_sheet 79 = .ok (.iload_n 3, 1) := by decide +kernel
theorem dX6_sheet_80 : decode cX6_sheet 80 = .ok (.if_icmp .ge 26, 3) := by decide +kernel
theorem dX6_sheet_83 : decode cX6_sheet 83 = .ok (.iload_n 2, 1) := by decide +kernel
theorem dX6_sheet_84 : decode cX6_sheet 84 = .ok (.ifCond .lt 22, 3) := by decide +kernel
theorem dX6_sheet_87 : decode cX6_sheet 87 = .ok (.aload_n 0, 1) := by decide +kernel
theorem dX6_sheet_88 : decode cX6_sheet 88 = .ok (.getfield 57, 3) := by decide +kernel
theorem dX6_sheet_91 : decode cX6_sheet 91 = .ok (.bipush 40, 2) := by decide +kernel
theorem dX6_sheet_93 : decode cX6_sheet 93 = .ok (.iload_n 1, 1) := by decide +kernel
theorem dX6_sheet_94 : decode cX6_sheet 94 = .ok (.imul, 1) := by decide +kernel
theorem dX6_sheet_95 : decode cX6_sheet 95 = .ok (.iload 4, 2) := by decide +kernel
theorem dX6_sheet_97 : decode cX6_sheet 97 = .ok (.iadd, 1) := by decide +kernel
theorem dX6_sheet_98 : decode cX6_sheet 98 = .ok (.iconst 0, 1) := by decide +kernel
theorem dX6_sheet_99 : decode cX6_sheet 99 = .ok (.iastore, 1) := by decide +kernel
theorem dX6_sheet_100 : decode cX6_sheet 100 = .ok (.iinc 4 1, 3) := by decide +kernel
theorem dX6_sheet_103 : decode cX6_sheet 103 = .ok (.goto (-26), 3) := by decide +kernel
theorem dX6_sheet_106 : decode cX6_sheet 106 = .ok (.iconst 1, 1) := by decide +kernel
theorem dX6_sheet_107 : decode cX6_sheet 107 = .ok (.ireturn, 1) := by decide +kernel
theorem dX6_cell_0 : decode cX6_cell 0 = .ok (.iload_n 1, 1) := by decide +kernel
theorem dX6_cell_1 : decode cX6_cell 1 = .ok (.invokestatic 318, 3) := by decide +kernel
theorem dX6_cell_4 : decode cX6_cell 4 = .ok (.ifCond .ne 6, 3) := by decide +kernel
theorem dX6_cell_7 : decode cX6_cell 7 = .ok (.bipush (-2), 2) := by decide +kernel
theorem dX6_cell_9 : decode cX6_cell 9 = .ok (.ireturn, 1) := by decide +kernel
theorem dX6_cell_10 : decode cX6_cell 10 = .ok (.aload_n 0, 1) := by decide +kernel
theorem dX6_cell_11 : decode cX6_cell 11 = .ok (.getfield 47, 3) := by decide +kernel
theorem dX6_cell_14 : decode cX6_cell 14 = .ok (.iload_n 1, 1) := by decide +kernel
theorem dX6_cell_15 : decode cX6_cell 15 = .ok (.baload, 1) := by decide +kernel
theorem dX6_cell_16 : decode cX6_cell 16 = .ok (.ifCond .ne 6, 3) := by decide +kernel
theorem dX6_cell_19 : decode cX6_cell 19 = .ok (.bipush (-11), 2) := by decide +kernel
theorem dX6_cell_21 : decode cX6_cell 21 = .ok (.ireturn, 1) := by decide +kernel
theorem dX6_cell_22 : decode cX6_cell 22 = .ok (.iload_n 2, 1) := by decide +kernel
theorem dX6_cell_23 : decode cX6_cell 23 = .ok (.i2l, 1) := by decide +kernel
theorem dX6_cell_24 : decode cX6_cell 24 = .ok (.lconst 0, 1) := by decide +kernel
theorem dX6_cell_25 : decode cX6_cell 25 = .ok (.aload_n 0, 1) := by decide +kernel
theorem dX6_cell_26 : decode cX6_cell 26 = .ok (.getfield 54, 3) := by decide +kernel
theorem dX6_cell_29 : decode cX6_cell 29 = .ok (.iload_n 1, 1) := by decide +kernel
theorem dX6_cell_30 : decode cX6_cell 30 = .ok (.iaload, 1) := by decide +kernel
theorem dX6_cell_31 : decode cX6_cell 31 = .ok (.iconst 1, 1) := by decide +kernel
theorem dX6_cell_32 : decode cX6_cell 32 = .ok (.isub, 1) := by decide +kernel
theorem dX6_cell_33 : decode cX6_cell 33 = .ok (.i2l, 1) := by decide +kernel
theorem dX6_cell_34 : decode cX6_cell 34 = .ok (.invokestatic 70, 3) := by decide +kernel
theorem dX6_cell_37 : decode cX6_cell 37 = .ok (.ifCond .ne 6, 3) := by decide +kernel
theorem dX6_cell_40 : decode cX6_cell 40 = .ok (.bipush (-12), 2) := by decide +kernel
theorem dX6_cell_42 : decode cX6_cell 42 = .ok (.ireturn, 1) := by decide +kernel
theorem dX6_cell_43 : decode cX6_cell 43 = .ok (.aload_n 0, 1) := by decide +kernel
theorem dX6_cell_44 : decode cX6_cell 44 = .ok (.getfield 57, 3) := by decide +kernel
theorem dX6_cell_47 : decode cX6_cell 47 = .ok (.bipush 40, 2) := by decide +kernel
theorem dX6_cell_49 : decode cX6_cell 49 = .ok (.iload_n 1, 1) := by decide +kernel
theorem dX6_cell_50 : decode cX6_cell 50 = .ok (.imul, 1) := by decide +kernel
theorem dX6_cell_51 : decode cX6_cell 51 = .ok (.iload_n 2, 1) := by decide +kernel
theorem dX6_cell_52 : decode cX6_cell 52 = .ok (.iadd, 1) := by decide +kernel
theorem dX6_cell_53 : decode cX6_cell 53 = .ok (.aload_n 0, 1) := by decide +kernel
theorem dX6_cell_54 : decode cX6_cell 54 = .ok (.getfield 51, 3) := by decide +kernel
theorem dX6_cell_57 : decode cX6_cell 57 = .ok (.iload_n 1, 1) := by decide +kernel
theorem dX6_cell_58 : decode cX6_cell 58 = .ok (.iaload, 1) := by decide +kernel
theorem dX6_cell_59 : decode cX6_cell 59 = .ok (.ifCond .ne 8, 3) := by decide +kernel
theorem dX6_cell_62 : decode cX6_cell 62 = .ok (.iload_n 3, 1) := by decide +kernel
theorem dX6_cell_63 : decode cX6_cell 63 = .ok (.i2b, 1) := by decide +kernel
theorem dX6_cell_64 : decode cX6_cell 64 = .ok (.goto 19, 3) := by decide +kernel
theorem dX6_cell_67 : decode cX6_cell 67 = .ok (.aload_n 0, 1) := by decide +kernel
theorem dX6_cell_68 : decode cX6_cell 68 = .ok (.getfield 51, 3) := by decide +kernel
theorem dX6_cell_71 : decode cX6_cell 71 = .ok (.iload_n 1, 1) := by decide +kernel
theorem dX6_cell_72 : decode cX6_cell 72 = .ok (.iaload, 1) := by decide +kernel
theorem dX6_cell_73 : decode cX6_cell 73 = .ok (.iconst 1, 1) := by decide +kernel
theorem dX6_cell_74 : decode cX6_cell 74 = .ok (.if_icmp .ne 8, 3) := by decide +kernel
theorem dX6_cell_77 : decode cX6_cell 77 = .ok (.iload_n 3, 1) := by decide +kernel
theorem dX6_cell_78 : decode cX6_cell 78 = .ok (.i2s, 1) := by decide +kernel
theorem dX6_cell_79 : decode cX6_cell 79 = .ok (.goto 4, 3) := by decide +kernel
theorem dX6_cell_82 : decode cX6_cell 82 = .ok (.iload_n 3, 1) := by decide +kernel
theorem dX6_cell_83 : decode cX6_cell 83 = .ok (.iastore, 1) := by decide +kernel
theorem dX6_cell_84 : decode cX6_cell 84 = .ok (.iconst 1, 1) := by decide +kernel
theorem dX6_cell_85 : decode cX6_cell 85 = .ok (.ireturn, 1) := by decide +kernel
theorem dX6_copy_0 : decode cX6_copy 0 = .ok (.iload_n 1, 1) := by decide +kernel
theorem dX6_copy_1 : decode cX6_copy 1 = .ok (.invokestatic 318, 3) := by decide +kernel
theorem dX6_copy_4 : decode cX6_copy 4 = .ok (.ifCond .eq 10, 3) := by decide +kernel
theorem dX6_copy_7 : decode cX6_copy 7 = .ok (.iload_n 3, 1) := by decide +kernel
theorem dX6_copy_8 : decode cX6_copy 8 = .ok (.invokestatic 318, 3) := by decide +kernel
theorem dX6_copy_11 : decode cX6_copy 11 = .ok (.ifCond .ne 6, 3) := by decide +kernel
theorem dX6_copy_14 : decode cX6_copy 14 = .ok (.bipush (-2), 2) := by decide +kernel
theorem dX6_copy_16 : decode cX6_copy 16 = .ok (.ireturn, 1) := by decide +kernel
theorem dX6_copy_17 : decode cX6_copy 17 = .ok (.aload_n 0, 1) := by decide +kernel
theorem dX6_copy_18 : decode cX6_copy 18 = .ok (.getfield 47, 3) := by decide +kernel
theorem dX6_copy_21 : decode cX6_copy 21 = .ok (.iload_n 1, 1) := by decide +kernel
theorem dX6_copy_22 : decode cX6_copy 22 = .ok (.baload, 1) := by decide +kernel
theorem dX6_copy_23 : decode cX6_copy 23 = .ok (.ifCond .eq 12, 3) := by decide +kernel
theorem dX6_copy_26 : decode cX6_copy 26 = .ok (.aload_n 0, 1) := by decide +kernel
theorem dX6_copy_27 : decode cX6_copy 27 = .ok (.getfield 47, 3) := by decide +kernel
theorem dX6_copy_30 : decode cX6_copy 30 = .ok (.iload_n 3, 1) := by decide +kernel
theorem dX6_copy_31 : decode cX6_copy 31 = .ok (.baload, 1) := by decide +kernel
theorem dX6_copy_32 : decode cX6_copy 32 = .ok (.ifCond .ne 6, 3) := by decide +kernel
theorem dX6_copy_35 : decode cX6_copy 35 = .ok (.bipush (-11), 2) := by decide +kernel
theorem dX6_copy_37 : decode cX6_copy 37 = .ok (.ireturn, 1) := by decide +kernel
theorem dX6_copy_38 : decode cX6_copy 38 = .ok (.aload_n 0, 1) := by decide +kernel
theorem dX6_copy_39 : decode cX6_copy 39 = .ok (.getfield 51, 3) := by decide +kernel
theorem dX6_copy_42 : decode cX6_copy 42 = .ok (.iload_n 1, 1) := by decide +kernel
theorem dX6_copy_43 : decode cX6_copy 43 = .ok (.iaload, 1) := by decide +kernel
theorem dX6_copy_44 : decode cX6_copy 44 = .ok (.aload_n 0, 1) := by decide +kernel
theorem dX6_copy_45 : decode cX6_copy 45 = .ok (.getfield 51, 3) := by decide +kernel
theorem dX6_copy_48 : decode cX6_copy 48 = .ok (.iload_n 3, 1) := by decide +kernel
theorem dX6_copy_49 : decode cX6_copy 49 = .ok (.iaload, 1) := by decide +kernel
theorem dX6_copy_50 : decode cX6_copy 50 = .ok (.if_icmp .eq 6, 3) := by decide +kernel
theorem dX6_copy_53 : decode cX6_copy 53 = .ok (.bipush (-13), 2) := by decide +kernel
theorem dX6_copy_55 : decode cX6_copy 55 = .ok (.ireturn, 1) := by decide +kernel
theorem dX6_copy_56 : decode cX6_copy 56 = .ok (.iload 5, 2) := by decide +kernel
theorem dX6_copy_58 : decode cX6_copy 58 = .ok (.ifCond .lt 39, 3) := by decide +kernel
theorem dX6_copy_61 : decode cX6_copy 61 = .ok (.iload_n 2, 1) := by decide +kernel
theorem dX6_copy_62 : decode cX6_copy 62 = .ok (.ifCond .lt 35, 3) := by decide +kernel
theorem dX6_copy_65 : decode cX6_copy 65 = .ok (.iload 4, 2) := by decide +kernel
theorem dX6_copy_67 : decode cX6_copy 67 = .ok (.ifCond .lt 30, 3) := by decide +kernel
theorem dX6_copy_70 : decode cX6_copy 70 = .ok (.iload_n 2, 1) := by decide +kernel
theorem dX6_copy_71 : decode cX6_copy 71 = .ok (.aload_n 0, 1) := by decide +kernel
theorem dX6_copy_72 : decode cX6_copy 72 = .ok (.getfield 54, 3) := by decide +kernel
theorem dX6_copy_75 : decode cX6_copy 75 = .ok (.iload_n 1, 1) := by decide +kernel
theorem dX6_copy_76 : decode cX6_copy 76 = .ok (.iaload, 1) := by decide +kernel
theorem dX6_copy_77 : decode cX6_copy 77 = .ok (.iload 5, 2) := by decide +kernel
theorem dX6_copy_79 : decode cX6_copy 79 = .ok (.isub, 1) := by decide +kernel
theorem dX6_copy_80 : decode cX6_copy 80 = .ok (.if_icmp .gt 17, 3) := by decide +kernel
theorem dX6_copy_83 : decode cX6_copy 83 = .ok (.iload 4, 2) := by decide +kernel
theorem dX6_copy_85 : decode cX6_copy 85 = .ok (.aload_n 0, 1) := by decide +kernel
theorem dX6_copy_86 : decode cX6_copy 86 = .ok (.getfield 54, 3) := by decide +kernel
theorem dX6_copy_89 : decode cX6_copy 89 = .ok (.iload_n 3, 1) := by decide +kernel
theorem dX6_copy_90 : decode cX6_copy 90 = .ok (.iaload, 1) := by decide +kernel
theorem dX6_copy_91 : decode cX6_copy 91 = .ok (.iload 5, 2) := by decide +kernel
theorem dX6_copy_93 : decode cX6_copy 93 = .ok (.isub, 1) := by decide +kernel
theorem dX6_copy_94 : decode cX6_copy 94 = .ok (.if_icmp .le 6, 3) := by decide +kernel
theorem dX6_copy_97 : decode cX6_copy 97 = .ok (.bipush (-12), 2) := by decide +kernel
theorem dX6_copy_99 : decode cX6_copy 99 = .ok (.ireturn, 1) := by decide +kernel
theorem dX6_copy_100 : decode cX6_copy 100 = .ok (.iload_n 1, 1) := by decide +kernel
theorem dX6_copy_101 : decode cX6_copy 101 = .ok (.iload_n 3, 1) := by decide +kernel
theorem dX6_copy_102 : decode cX6_copy 102 = .ok (.if_icmp .ne 13, 3) := by decide +kernel
theorem dX6_copy_105 : decode cX6_copy 105 = .ok (.iload_n 2, 1) := by decide +kernel
theorem dX6_copy_106 : decode cX6_copy 106 = .ok (.iload 4, 2) := by decide +kernel
theorem dX6_copy_108 : decode cX6_copy 108 = .ok (.if_icmp .ge 7, 3) := by decide +kernel
theorem dX6_copy_111 : decode cX6_copy 111 = .ok (.iconst 1, 1) := by decide +kernel
theorem dX6_copy_112 : decode cX6_copy 112 = .ok (.goto 4, 3) := by decide +kernel
theorem dX6_copy_115 : decode cX6_copy 115 = .ok (.iconst 0, 1) := by decide +kernel
theorem dX6_copy_116 : decode cX6_copy 116 = .ok (.istore 6, 2) := by decide +kernel
theorem dX6_copy_118 : decode cX6_copy 118 = .ok (.iconst 0, 1) := by decide +kernel
theorem dX6_copy_119 : decode cX6_copy 119 = .ok (.istore 7, 2) := by decide +kernel
theorem dX6_copy_121 : decode cX6_copy 121 = .ok (.iload 7, 2) := by decide +kernel
theorem dX6_copy_123 : decode cX6_copy 123 = .ok (.iload 5, 2) := by decide +kernel
theorem dX6_copy_125 : decode cX6_copy 125 = .ok (.if_icmp .ge 57, 3) := by decide +kernel
theorem dX6_copy_128 : decode cX6_copy 128 = .ok (.iload 6, 2) := by decide +kernel
theorem dX6_copy_130 : decode cX6_copy 130 = .ok (.ifCond .eq 13, 3) := by decide +kernel
theorem dX6_copy_133 : decode cX6_copy 133 = .ok (.iload 5, 2) := by decide +kernel
theorem dX6_copy_135 : decode cX6_copy 135 = .ok (.iconst 1, 1) := by decide +kernel
theorem dX6_copy_136 : decode cX6_copy 136 = .ok (.isub, 1) := by decide +kernel
theorem dX6_copy_137 : decode cX6_copy 137 = .ok (.iload 7, 2) := by decide +kernel
theorem dX6_copy_139 : decode cX6_copy 139 = .ok (.isub, 1) := by decide +kernel
theorem dX6_copy_140 : decode cX6_copy 140 = .ok (.goto 5, 3) := by decide +kernel
theorem dX6_copy_143 : decode cX6_copy 143 = .ok (.iload 7, 2) := by decide +kernel
theorem dX6_copy_145 : decode cX6_copy 145 = .ok (.istore 8, 2) := by decide +kernel
theorem dX6_copy_147 : decode cX6_copy 147 = .ok (.aload_n 0, 1) := by decide +kernel
theorem dX6_copy_148 : decode cX6_copy 148 = .ok (.getfield 57, 3) := by decide +kernel
theorem dX6_copy_151 : decode cX6_copy 151 = .ok (.bipush 40, 2) := by decide +kernel
theorem dX6_copy_153 : decode cX6_copy 153 = .ok (.iload_n 3, 1) := by decide +kernel
theorem dX6_copy_154 : decode cX6_copy 154 = .ok (.imul, 1) := by decide +kernel
theorem dX6_copy_155 : decode cX6_copy 155 = .ok (.iload 4, 2) := by decide +kernel
theorem dX6_copy_157 : decode cX6_copy 157 = .ok (.iadd, 1) := by decide +kernel
theorem dX6_copy_158 : decode cX6_copy 158 = .ok (.iload 8, 2) := by decide +kernel
theorem dX6_copy_160 : decode cX6_copy 160 = .ok (.iadd, 1) := by decide +kernel
theorem dX6_copy_161 : decode cX6_copy 161 = .ok (.aload_n 0, 1) := by decide +kernel
theorem dX6_copy_162 : decode cX6_copy 162 = .ok (.getfield 57, 3) := by decide +kernel
theorem dX6_copy_165 : decode cX6_copy 165 = .ok (.bipush 40, 2) := by decide +kernel
theorem dX6_copy_167 : decode cX6_copy 167 = .ok (.iload_n 1, 1) := by decide +kernel
theorem dX6_copy_168 : decode cX6_copy 168 = .ok (.imul, 1) := by decide +kernel
theorem dX6_copy_169 : decode cX6_copy 169 = .ok (.iload_n 2, 1) := by decide +kernel
theorem dX6_copy_170 : decode cX6_copy 170 = .ok (.iadd, 1) := by decide +kernel
theorem dX6_copy_171 : decode cX6_copy 171 = .ok (.iload 8, 2) := by decide +kernel
theorem dX6_copy_173 : decode cX6_copy 173 = .ok (.iadd, 1) := by decide +kernel
theorem dX6_copy_174 : decode cX6_copy 174 = .ok (.iaload, 1) := by decide +kernel
theorem dX6_copy_175 : decode cX6_copy 175 = .ok (.iastore, 1) := by decide +kernel
theorem dX6_copy_176 : decode cX6_copy 176 = .ok (.iinc 7 1, 3) := by decide +kernel
theorem dX6_copy_179 : decode cX6_copy 179 = .ok (.goto (-58), 3) := by decide +kernel
theorem dX6_copy_182 : decode cX6_copy 182 = .ok (.iload 5, 2) := by decide +kernel
theorem dX6_copy_184 : decode cX6_copy 184 = .ok (.ireturn, 1) := by decide +kernel
theorem dX6_chain_0 : decode cX6_chain 0 = .ok (.iload_n 1, 1) := by decide +kernel
theorem dX6_chain_1 : decode cX6_chain 1 = .ok (.invokestatic 318, 3) := by decide +kernel
theorem dX6_chain_4 : decode cX6_chain 4 = .ok (.ifCond .eq 28, 3) := by decide +kernel
theorem dX6_chain_7 : decode cX6_chain 7 = .ok (.iload_n 2, 1) := by decide +kernel
theorem dX6_chain_8 : decode cX6_chain 8 = .ok (.i2l, 1) := by decide +kernel
theorem dX6_chain_9 : decode cX6_chain 9 = .ok (.lconst 0, 1) := by decide +kernel
theorem dX6_chain_10 : decode cX6_chain 10 = .ok (.ldc2_w 285, 3) := by decide +kernel
theorem dX6_chain_13 : decode cX6_chain 13 = .ok (.invokestatic 70, 3) := by decide +kernel
theorem dX6_chain_16 : decode cX6_chain 16 = .ok (.ifCond .eq 16, 3) := by decide +kernel
theorem dX6_chain_19 : decode cX6_chain 19 = .ok (.iload 4, 2) := by decide +kernel
theorem dX6_chain_21 : decode cX6_chain 21 = .ok (.i2l, 1) := by decide +kernel
theorem dX6_chain_22 : decode cX6_chain 22 = .ok (.lconst 0, 1) := by decide +kernel
theorem dX6_chain_23 : decode cX6_chain 23 = .ok (.ldc2_w 347, 3) := by decide +kernel
theorem dX6_chain_26 : decode cX6_chain 26 = .ok (.invokestatic 70, 3) := by decide +kernel
theorem dX6_chain_29 : decode cX6_chain 29 = .ok (.ifCond .ne 6, 3) := by decide +kernel
theorem dX6_chain_32 : decode cX6_chain 32 = .ok (.bipush (-2), 2) := by decide +kernel
theorem dX6_chain_34 : decode cX6_chain 34 = .ok (.ireturn, 1) := by decide +kernel
theorem dX6_chain_35 : decode cX6_chain 35 = .ok (.aload_n 0, 1) := by decide +kernel
theorem dX6_chain_36 : decode cX6_chain 36 = .ok (.getfield 47, 3) := by decide +kernel
theorem dX6_chain_39 : decode cX6_chain 39 = .ok (.iload_n 1, 1) := by decide +kernel
theorem dX6_chain_40 : decode cX6_chain 40 = .ok (.baload, 1) := by decide +kernel
theorem dX6_chain_41 : decode cX6_chain 41 = .ok (.ifCond .eq 16, 3) := by decide +kernel
theorem dX6_chain_44 : decode cX6_chain 44 = .ok (.aload_n 0, 1) := by decide +kernel
theorem dX6_chain_45 : decode cX6_chain 45 = .ok (.getfield 51, 3) := by decide +kernel
theorem dX6_chain_48 : decode cX6_chain 48 = .ok (.iload_n 1, 1) := by decide +kernel
theorem dX6_chain_49 : decode cX6_chain 49 = .ok (.iaload, 1) := by decide +kernel
theorem dX6_chain_50 : decode cX6_chain 50 = .ok (.iload_n 2, 1) := by decide +kernel
theorem dX6_chain_51 : decode cX6_chain 51 = .ok (.if_icmp .eq 6, 3) := by decide +kernel
theorem dX6_chain_54 : decode cX6_chain 54 = .ok (.bipush (-13), 2) := by decide +kernel
theorem dX6_chain_56 : decode cX6_chain 56 = .ok (.ireturn, 1) := by decide +kernel
theorem dX6_chain_57 : decode cX6_chain 57 = .ok (.aload_n 0, 1) := by decide +kernel
theorem dX6_chain_58 : decode cX6_chain 58 = .ok (.getfield 47, 3) := by decide +kernel
theorem dX6_chain_61 : decode cX6_chain 61 = .ok (.iload_n 1, 1) := by decide +kernel
theorem dX6_chain_62 : decode cX6_chain 62 = .ok (.baload, 1) := by decide +kernel
theorem dX6_chain_63 : decode cX6_chain 63 = .ok (.ifCond .ne 6, 3) := by decide +kernel
theorem dX6_chain_66 : decode cX6_chain 66 = .ok (.bipush (-11), 2) := by decide +kernel
theorem dX6_chain_68 : decode cX6_chain 68 = .ok (.ireturn, 1) := by decide +kernel
theorem dX6_chain_69 : decode cX6_chain 69 = .ok (.iconst 0, 1) := by decide +kernel
theorem dX6_chain_70 : decode cX6_chain 70 = .ok (.istore 5, 2) := by decide +kernel
theorem dX6_chain_72 : decode cX6_chain 72 = .ok (.iconst 0, 1) := by decide +kernel
theorem dX6_chain_73 : decode cX6_chain 73 = .ok (.istore 6, 2) := by decide +kernel
theorem dX6_chain_75 : decode cX6_chain 75 = .ok (.iload 6, 2) := by decide +kernel
theorem dX6_chain_77 : decode cX6_chain 77 = .ok (.iload 4, 2) := by decide +kernel
theorem dX6_chain_79 : decode cX6_chain 79 = .ok (.if_icmp .ge 88, 3) := by decide +kernel
theorem dX6_chain_82 : decode cX6_chain 82 = .ok (.iload_n 3, 1) := by decide +kernel
theorem dX6_chain_83 : decode cX6_chain 83 = .ok (.ifCond .lt 20, 3) := by decide +kernel
theorem dX6_chain_86 : decode cX6_chain 86 = .ok (.iload_n 3, 1) := by decide +kernel
theorem dX6_chain_87 : decode cX6_chain 87 = .ok (.aload_n 0, 1) := by decide +kernel
theorem dX6_chain_88 : decode cX6_chain 88 = .ok (.getfield 54, 3) := by decide +kernel
theorem dX6_chain_91 : decode cX6_chain 91 = .ok (.iload_n 1, 1) := by decide +kernel
theorem dX6_chain_92 : decode cX6_chain 92 = .ok (.iaload, 1) := by decide +kernel
theorem dX6_chain_93 : decode cX6_chain 93 = .ok (.iconst 3, 1) := by decide +kernel
theorem dX6_chain_94 : decode cX6_chain 94 = .ok (.iload 6, 2) := by decide +kernel
theorem dX6_chain_96 : decode cX6_chain 96 = .ok (.imul, 1) := by decide +kernel
theorem dX6_chain_97 : decode cX6_chain 97 = .ok (.isub, 1) := by decide +kernel
theorem dX6_chain_98 : decode cX6_chain 98 = .ok (.iconst 3, 1) := by decide +kernel
theorem dX6_chain_99 : decode cX6_chain 99 = .ok (.isub, 1) := by decide +kernel
theorem dX6_chain_100 : decode cX6_chain 100 = .ok (.if_icmp .le 6, 3) := by decide +kernel
theorem dX6_chain_103 : decode cX6_chain 103 = .ok (.bipush (-12), 2) := by decide +kernel
theorem dX6_chain_105 : decode cX6_chain 105 = .ok (.ireturn, 1) := by decide +kernel
theorem dX6_chain_106 : decode cX6_chain 106 = .ok (.bipush 40, 2) := by decide +kernel
theorem dX6_chain_108 : decode cX6_chain 108 = .ok (.iload_n 1, 1) := by decide +kernel
theorem dX6_chain_109 : decode cX6_chain 109 = .ok (.imul, 1) := by decide +kernel
theorem dX6_chain_110 : decode cX6_chain 110 = .ok (.iload_n 3, 1) := by decide +kernel
theorem dX6_chain_111 : decode cX6_chain 111 = .ok (.iadd, 1) := by decide +kernel
theorem dX6_chain_112 : decode cX6_chain 112 = .ok (.iconst 3, 1) := by decide +kernel
theorem dX6_chain_113 : decode cX6_chain 113 = .ok (.iload 6, 2) := by decide +kernel
theorem dX6_chain_115 : decode cX6_chain 115 = .ok (.imul, 1) := by decide +kernel
theorem dX6_chain_116 : decode cX6_chain 116 = .ok (.iadd, 1) := by decide +kernel
theorem dX6_chain_117 : decode cX6_chain 117 = .ok (.istore 7, 2) := by decide +kernel
theorem dX6_chain_119 : decode cX6_chain 119 = .ok (.iload 5, 2) := by decide +kernel
theorem dX6_chain_121 : decode cX6_chain 121 = .ok (.aload_n 0, 1) := by decide +kernel
theorem dX6_chain_122 : decode cX6_chain 122 = .ok (.aload_n 0, 1) := by decide +kernel
theorem dX6_chain_123 : decode cX6_chain 123 = .ok (.getfield 57, 3) := by decide +kernel
theorem dX6_chain_126 : decode cX6_chain 126 = .ok (.iload 7, 2) := by decide +kernel
theorem dX6_chain_128 : decode cX6_chain 128 = .ok (.iaload, 1) := by decide +kernel
theorem dX6_chain_129 : decode cX6_chain 129 = .ok (.aload_n 0, 1) := by decide +kernel
theorem dX6_chain_130 : decode cX6_chain 130 = .ok (.getfield 57, 3) := by decide +kernel
theorem dX6_chain_133 : decode cX6_chain 133 = .ok (.iload 7, 2) := by decide +kernel
theorem dX6_chain_135 : decode cX6_chain 135 = .ok (.iconst 1, 1) := by decide +kernel
theorem dX6_chain_136 : decode cX6_chain 136 = .ok (.iadd, 1) := by decide +kernel
theorem dX6_chain_137 : decode cX6_chain 137 = .ok (.iaload, 1) := by decide +kernel
theorem dX6_chain_138 : decode cX6_chain 138 = .ok (.aload_n 0, 1) := by decide +kernel
theorem dX6_chain_139 : decode cX6_chain 139 = .ok (.getfield 57, 3) := by decide +kernel
theorem dX6_chain_142 : decode cX6_chain 142 = .ok (.iload 7, 2) := by decide +kernel
theorem dX6_chain_144 : decode cX6_chain 144 = .ok (.iconst 2, 1) := by decide +kernel
theorem dX6_chain_145 : decode cX6_chain 145 = .ok (.iadd, 1) := by decide +kernel
theorem dX6_chain_146 : decode cX6_chain 146 = .ok (.iaload, 1) := by decide +kernel
theorem dX6_chain_147 : decode cX6_chain 147 = .ok (.invokevirtual 349, 3) := by decide +kernel
theorem dX6_chain_150 : decode cX6_chain 150 = .ok (.ifCond .lt 7, 3) := by decide +kernel
theorem dX6_chain_153 : decode cX6_chain 153 = .ok (.iconst 1, 1) := by decide +kernel
theorem dX6_chain_154 : decode cX6_chain 154 = .ok (.goto 4, 3) := by decide +kernel
theorem dX6_chain_157 : decode cX6_chain 157 = .ok (.iconst 0, 1) := by decide +kernel
theorem dX6_chain_158 : decode cX6_chain 158 = .ok (.iadd, 1) := by decide +kernel
theorem dX6_chain_159 : decode cX6_chain 159 = .ok (.istore 5, 2) := by decide +kernel
theorem dX6_chain_161 : decode cX6_chain 161 = .ok (.iinc 6 1, 3) := by decide +kernel
theorem dX6_chain_164 : decode cX6_chain 164 = .ok (.goto (-89), 3) := by decide +kernel
theorem dX6_chain_167 : decode cX6_chain 167 = .ok (.iload 5, 2) := by decide +kernel
theorem dX6_chain_169 : decode cX6_chain 169 = .ok (.ireturn, 1) := by decide +kernel
theorem dX6_over_0 : decode cX6_over 0 = .ok (.iload_n 0, 1) := by decide +kernel
theorem dX6_over_1 : decode cX6_over 1 = .ok (.ifCond .ne 7, 3) := by decide +kernel
theorem dX6_over_4 : decode cX6_over 4 = .ok (.iconst (-1), 1) := by decide +kernel
theorem dX6_over_5 : decode cX6_over 5 = .ok (.goto 22, 3) := by decide +kernel
theorem dX6_over_8 : decode cX6_over 8 = .ok (.iload_n 0, 1) := by decide +kernel
theorem dX6_over_9 : decode cX6_over 9 = .ok (.iconst 3, 1) := by decide +kernel
theorem dX6_over_10 : decode cX6_over 10 = .ok (.if_icmp .ne 7, 3) := by decide +kernel
theorem dX6_over_13 : decode cX6_over 13 = .ok (.iconst 1, 1) := by decide +kernel
theorem dX6_over_14 : decode cX6_over 14 = .ok (.goto 13, 3) := by decide +kernel
theorem dX6_over_17 : decode cX6_over 17 = .ok (.iload_n 0, 1) := by decide +kernel
theorem dX6_over_18 : decode cX6_over 18 = .ok (.iconst 4, 1) := by decide +kernel
theorem dX6_over_19 : decode cX6_over 19 = .ok (.if_icmp .ne 7, 3) := by decide +kernel
theorem dX6_over_22 : decode cX6_over 22 = .ok (.iconst 2, 1) := by decide +kernel
theorem dX6_over_23 : decode cX6_over 23 = .ok (.goto 4, 3) := by decide +kernel
theorem dX6_over_26 : decode cX6_over 26 = .ok (.iconst 0, 1) := by decide +kernel
theorem dX6_over_27 : decode cX6_over 27 = .ok (.ireturn, 1) := by decide +kernel
theorem dX6_taken_0 : decode cX6_taken 0 = .ok (.iload_n 2, 1) := by decide +kernel
theorem dX6_taken_1 : decode cX6_taken 1 = .ok (.i2l, 1) := by decide +kernel
theorem dX6_taken_2 : decode cX6_taken 2 = .ok (.lconst 0, 1) := by decide +kernel
theorem dX6_taken_3 : decode cX6_taken 3 = .ok (.ldc2_w 111, 3) := by decide +kernel
theorem dX6_taken_6 : decode cX6_taken 6 = .ok (.invokestatic 70, 3) := by decide +kernel
theorem dX6_taken_9 : decode cX6_taken 9 = .ok (.ifCond .ne 6, 3) := by decide +kernel
theorem dX6_taken_12 : decode cX6_taken 12 = .ok (.bipush (-2), 2) := by decide +kernel
theorem dX6_taken_14 : decode cX6_taken 14 = .ok (.ireturn, 1) := by decide +kernel
theorem dX6_taken_15 : decode cX6_taken 15 = .ok (.aload_n 0, 1) := by decide +kernel
theorem dX6_taken_16 : decode cX6_taken 16 = .ok (.iload_n 1, 1) := by decide +kernel
theorem dX6_taken_17 : decode cX6_taken 17 = .ok (.invokevirtual 74, 3) := by decide +kernel
theorem dX6_taken_20 : decode cX6_taken 20 = .ok (.ifCond .ne 6, 3) := by decide +kernel
theorem dX6_taken_23 : decode cX6_taken 23 = .ok (.bipush (-11), 2) := by decide +kernel
theorem dX6_taken_25 : decode cX6_taken 25 = .ok (.ireturn, 1) := by decide +kernel
theorem dX6_taken_26 : decode cX6_taken 26 = .ok (.aload_n 0, 1) := by decide +kernel
theorem dX6_taken_27 : decode cX6_taken 27 = .ok (.getfield 23, 3) := by decide +kernel
theorem dX6_taken_30 : decode cX6_taken 30 = .ok (.iconst 3, 1) := by decide +kernel
theorem dX6_taken_31 : decode cX6_taken 31 = .ok (.iload_n 1, 1) := by decide +kernel
theorem dX6_taken_32 : decode cX6_taken 32 = .ok (.imul, 1) := by decide +kernel
theorem dX6_taken_33 : decode cX6_taken 33 = .ok (.iconst 2, 1) := by decide +kernel
theorem dX6_taken_34 : decode cX6_taken 34 = .ok (.iadd, 1) := by decide +kernel
theorem dX6_taken_35 : decode cX6_taken 35 = .ok (.iaload, 1) := by decide +kernel
theorem dX6_taken_36 : decode cX6_taken 36 = .ok (.istore_n 3, 1) := by decide +kernel
theorem dX6_taken_37 : decode cX6_taken 37 = .ok (.iload_n 3, 1) := by decide +kernel
theorem dX6_taken_38 : decode cX6_taken 38 = .ok (.iconst (-1), 1) := by decide +kernel
theorem dX6_taken_39 : decode cX6_taken 39 = .ok (.if_icmp .eq 16, 3) := by decide +kernel
theorem dX6_taken_42 : decode cX6_taken 42 = .ok (.iload_n 3, 1) := by decide +kernel
theorem dX6_taken_43 : decode cX6_taken 43 = .ok (.iload_n 2, 1) := by decide +kernel
theorem dX6_taken_44 : decode cX6_taken 44 = .ok (.if_icmp .eq 11, 3) := by decide +kernel
theorem dX6_taken_47 : decode cX6_taken 47 = .ok (.iload_n 3, 1) := by decide +kernel
theorem dX6_taken_48 : decode cX6_taken 48 = .ok (.invokestatic 352, 3) := by decide +kernel
theorem dX6_taken_51 : decode cX6_taken 51 = .ok (.istore_n 3, 1) := by decide +kernel
theorem dX6_taken_52 : decode cX6_taken 52 = .ok (.goto (-15), 3) := by decide +kernel
theorem dX6_taken_55 : decode cX6_taken 55 = .ok (.iload_n 3, 1) := by decide +kernel
theorem dX6_taken_56 : decode cX6_taken 56 = .ok (.iload_n 2, 1) := by decide +kernel
theorem dX6_taken_57 : decode cX6_taken 57 = .ok (.if_icmp .ne 14, 3) := by decide +kernel
theorem dX6_taken_60 : decode cX6_taken 60 = .ok (.aload_n 0, 1) := by decide +kernel
theorem dX6_taken_61 : decode cX6_taken 61 = .ok (.getfield 23, 3) := by decide +kernel
theorem dX6_taken_64 : decode cX6_taken 64 = .ok (.iconst 3, 1) := by decide +kernel
theorem dX6_taken_65 : decode cX6_taken 65 = .ok (.iload_n 1, 1) := by decide +kernel
theorem dX6_taken_66 : decode cX6_taken 66 = .ok (.imul, 1) := by decide +kernel
theorem dX6_taken_67 : decode cX6_taken 67 = .ok (.iaload, 1) := by decide +kernel
theorem dX6_taken_68 : decode cX6_taken 68 = .ok (.goto 5, 3) := by decide +kernel
theorem dX6_taken_71 : decode cX6_taken 71 = .ok (.bipush (-13), 2) := by decide +kernel
theorem dX6_taken_73 : decode cX6_taken 73 = .ok (.ireturn, 1) := by decide +kernel
end
section
/-! values, memory, layout of a world whose cells are fixed: only numbers change -/
abbrev z_V : Type := Int32 ⊕ (Int64 ⊕ Nat)
abbrev zI (x : Int32) : z_V := Sum.inl x
abbrev zL (x : Int64) : z_V := Sum.inr (Sum.inl x)
abbrev zR (k : Nat) : z_V := Sum.inr (Sum.inr k)
def z_v (ad : Nat → Nat) : z_V → Value
  | .inl x => .int x
  | .inr (.inl x) => .long x
  | .inr (.inr k) => .ref (ad k)
abbrev z_Mem : Type := (Nat → Nat → Int32) × (Nat → Nat → Int64)
def z_pt (σ : z_Mem) (k j : Nat) (v : Int32) : z_Mem := (va_up σ.1 k (upd (σ.1 k) j v), σ.2)
def z_cp (σ : z_Mem) (k : Nat) (g : Nat → Int32) : z_Mem := (va_up σ.1 k g, σ.2)
def z_pl (σ : z_Mem) (k j : Nat) (v : Int64) : z_Mem := (σ.1, va_up σ.2 k (vp_updL (σ.2 k) j v))
/-- an object (its number among the classes, its slots: 0 an int, 1 a long, t + 2 the cell t), or a row (0 ints, 1 booleans, else of cells b, b + w ..; its length) -/
abbrev z_Cell : Type := (Nat × List Nat) ⊕ (Nat × Nat × Nat × Nat)
abbrev z_Lay : Type := List z_Cell
def z_slot (ad : Nat → Nat) (σ : z_Mem) (k j : Nat) : Nat → Value
  | 0 => .int (σ.1 k j)
  | 1 => .long (σ.2 k j)
  | t + 2 => .ref (ad t)
abbrev z_Cy : Type := ClassId × ClassId × ClassId
def z_E (ad : Nat → Nat) (cy : z_Cy) (σ : z_Mem) (k : Nat) : z_Cell → va_E
  | .inl (ci, ts) => .inr (ci, ts.mapIdx (fun j t => z_slot ad σ k j t))
  | .inr (0, n, _, _) => .inl (cy.1, n, .inl (σ.1 k))
  | .inr (1, n, _, _) => .inl (cy.2.1, n, .inl (σ.1 k))
  | .inr (_ + 2, n, b, w) => .inl (cy.2.2, n, .inr (.inr (.inr (.inr (fun i => some (ad (b + w * i)))))))
def z_ws (Y : z_Lay) (ad : Nat → Nat) (cy : z_Cy) (σ : z_Mem) : va_W := Y.mapIdx (fun k c => (ad k, z_E ad cy σ k c))
theorem z_ws_get {Y : z_Lay} {ad : Nat → Nat} {cy : z_Cy} {σ : z_Mem} {k : Nat} {c : z_Cell} (h : Y[k]? = some c) : (z_ws Y ad cy σ)[k]? = some (ad k, z_E ad cy σ k c) := by
  simp [z_ws, h]
theorem z_ws_at {Y : z_Lay} {ad : Nat → Nat} {cy : z_Cy} {σ : z_Mem} {k : Nat} {q : Nat × va_E} (h : (z_ws Y ad cy σ)[k]? = some q) : ∃ c, Y[k]? = some c ∧ q = (ad k, z_E ad cy σ k c) := by
  simp only [z_ws, List.getElem?_mapIdx, Option.map_eq_some_iff] at h
  obtain ⟨c, h1, h2⟩ := h
  exact ⟨c, h1, h2.symm⟩
theorem z_lt {Y : z_Lay} {k : Nat} {c : z_Cell} (h : Y[k]? = some c) : k < Y.length := (List.getElem?_eq_some_iff.mp h).1
/-- which cells the world is -/
def z_A (ad : Nat → Nat) (N : Nat) : Nat → Prop := fun q => ∃ k, k < N ∧ q = ad k
theorem z_D {Y : z_Lay} {ad : Nat → Nat} {cy : z_Cy} {σ : z_Mem} (hi : ∀ i j, i < Y.length → j < Y.length → ad i = ad j → i = j) : va_D (z_A ad Y.length) (z_ws Y ad cy σ) := by
  refine ⟨fun i j p q hp hq h => ?_, fun k q hq => ?_⟩
  · obtain ⟨c, h1, rfl⟩ := z_ws_at hp
    obtain ⟨c2, h2, rfl⟩ := z_ws_at hq
    exact hi i j (z_lt h1) (z_lt h2) h
  · obtain ⟨c, h1, rfl⟩ := z_ws_at hq
    exact ⟨k, z_lt h1, rfl⟩
theorem z_ws_set {Y : z_Lay} {ad : Nat → Nat} {cy : z_Cy} {σ σ' : z_Mem} {k : Nat} {c : z_Cell} {e : va_E} (h : Y[k]? = some c) (he : z_E ad cy σ' k c = e) (ho : ∀ k' c', k' ≠ k → Y[k']? = some c' → z_E ad cy σ' k' c' = z_E ad cy σ k' c') : (z_ws Y ad cy σ).set k (ad k, e) = z_ws Y ad cy σ' := by
  apply List.ext_getElem?
  intro i
  by_cases hi : i = k
  · subst hi
    rw [z_ws_get h, List.getElem?_set_self (by simp [z_ws]; exact z_lt h), he]
  · rw [List.getElem?_set_ne (Ne.symm hi)]
    cases hc : Y[i]? with
    | none => simp [z_ws, hc]
    | some c' => rw [z_ws_get hc, z_ws_get hc, ho i c' hi hc]
theorem z_E_o1 {ad : Nat → Nat} {cy : z_Cy} {σ σ' : z_Mem} {k : Nat} (h1 : σ'.1 k = σ.1 k) (h2 : σ'.2 k = σ.2 k) (c : z_Cell) : z_E ad cy σ' k c = z_E ad cy σ k c := by
  have hs : ∀ j t, z_slot ad σ' k j t = z_slot ad σ k j t := by
    intro j t
    match t with
    | 0 => simp only [z_slot, h1]
    | 1 => simp only [z_slot, h2]
    | t + 2 => simp only [z_slot]
  match c with
  | .inl (ci, ts) => simp only [z_E, hs]
  | .inr (0, n, _, _) => simp only [z_E, h1]
  | .inr (1, n, _, _) => simp only [z_E, h1]
  | .inr (_ + 2, n, b, w) => simp only [z_E]
theorem z_up_ne {α : Type} {f : Nat → α} {k k' : Nat} {v : α} (h : k' ≠ k) : va_up f k v k' = f k' := by simp [va_up, h]
theorem z_up_eq {α : Type} {f : Nat → α} {k : Nat} {v : α} : va_up f k v k = v := by simp [va_up]
/-- a field's store -/
theorem z_set_f {Y : z_Lay} {ad : Nat → Nat} {cy : z_Cy} {σ : z_Mem} {k j ci : Nat} {ts : List Nat} {x : Int32} (h : Y[k]? = some (.inl (ci, ts))) (hj : ts[j]? = some 0) : (z_ws Y ad cy σ).set k (ad k, .inr (ci, (ts.mapIdx (fun j t => z_slot ad σ k j t)).set j (.int x))) = z_ws Y ad cy (z_pt σ k j x) := by
  refine z_ws_set h ?_ (fun k' c' hk _ => z_E_o1 (σ := σ) (σ' := z_pt σ k j x) (by simp [z_pt, z_up_ne hk]) rfl c')
  simp only [z_E]
  congr 2
  apply List.ext_getElem?
  intro i
  by_cases hi : i = j
  · subst hi
    rw [List.getElem?_set_self (by simp; exact (List.getElem?_eq_some_iff.mp hj).1)]
    simp [hj, z_slot, z_pt, va_up, upd]
  · rw [List.getElem?_set_ne (Ne.symm hi)]
    simp only [List.getElem?_mapIdx]
    cases ts[i]? with
    | none => rfl
    | some t =>
      match t with
      | 0 => simp [z_slot, z_pt, va_up, upd, hi]
      | 1 => simp [z_slot, z_pt]
      | t + 2 => simp [z_slot]
theorem z_set_l {Y : z_Lay} {ad : Nat → Nat} {cy : z_Cy} {σ : z_Mem} {k j ci : Nat} {ts : List Nat} {x : Int64} (h : Y[k]? = some (.inl (ci, ts))) (hj : ts[j]? = some 1) : (z_ws Y ad cy σ).set k (ad k, .inr (ci, (ts.mapIdx (fun j t => z_slot ad σ k j t)).set j (.long x))) = z_ws Y ad cy (z_pl σ k j x) := by
  refine z_ws_set h ?_ (fun k' c' hk _ => z_E_o1 (σ := σ) (σ' := z_pl σ k j x) rfl (by simp [z_pl, z_up_ne hk]) c')
  simp only [z_E]
  congr 2
  apply List.ext_getElem?
  intro i
  by_cases hi : i = j
  · subst hi
    rw [List.getElem?_set_self (by simp; exact (List.getElem?_eq_some_iff.mp hj).1)]
    simp [hj, z_slot, z_pl, va_up, vp_updL]
  · rw [List.getElem?_set_ne (Ne.symm hi)]
    simp only [List.getElem?_mapIdx]
    cases ts[i]? with
    | none => rfl
    | some t =>
      match t with
      | 0 => simp [z_slot, z_pl]
      | 1 => simp [z_slot, z_pl, va_up, vp_updL, hi]
      | t + 2 => simp [z_slot]
/-- a row's change -/
theorem z_set_i {Y : z_Lay} {ad : Nat → Nat} {cy : z_Cy} {σ : z_Mem} {k n b w : Nat} {g : Nat → Int32} (h : Y[k]? = some (.inr (0, n, b, w))) : (z_ws Y ad cy σ).set k (ad k, .inl (cy.1, n, .inl g)) = z_ws Y ad cy (z_cp σ k g) := by
  refine z_ws_set h ?_ (fun k' c' hk _ => z_E_o1 (σ := σ) (σ' := z_cp σ k g) (by simp [z_cp, z_up_ne hk]) rfl c')
  simp [z_E, z_cp, z_up_eq]
theorem z_set_z {Y : z_Lay} {ad : Nat → Nat} {cy : z_Cy} {σ : z_Mem} {k n b w : Nat} {g : Nat → Int32} (h : Y[k]? = some (.inr (1, n, b, w))) : (z_ws Y ad cy σ).set k (ad k, .inl (cy.2.1, n, .inl g)) = z_ws Y ad cy (z_cp σ k g) := by
  refine z_ws_set h ?_ (fun k' c' hk _ => z_E_o1 (σ := σ) (σ' := z_cp σ k g) (by simp [z_cp, z_up_ne hk]) rfl c')
  simp [z_E, z_cp, z_up_eq]
/-! locals by their places -/
def z_pairs (ad : Nat → Nat) : Nat → List (Option z_V) → List (Nat × Value)
  | _, [] => []
  | i, none :: r => z_pairs ad (i + 1) r
  | i, some v :: r => (i, z_v ad v) :: z_pairs ad (i + 1) r
theorem z_pairs_in {ad : Nat → Nat} : ∀ {lv : List (Option z_V)} {i : Nat} {q : Nat × Value}, q ∈ z_pairs ad i lv ↔ ∃ (j : Nat) (v : z_V), lv[j]? = some (some v) ∧ q = (i + j, z_v ad v)
  | [], i, q => by simp [z_pairs]
  | none :: r, i, q => by
    rw [z_pairs, z_pairs_in]
    constructor
    · rintro ⟨j, v, h1, h2⟩
      exact ⟨j + 1, v, by simpa using h1, by rw [h2]; congr 1; omega⟩
    · rintro ⟨j, v, h1, h2⟩
      match j with
      | 0 => simp at h1
      | j + 1 => exact ⟨j, v, by simpa using h1, by rw [h2]; congr 1; omega⟩
  | some w :: r, i, q => by
    rw [z_pairs, List.mem_cons, z_pairs_in]
    constructor
    · rintro (h | ⟨j, v, h1, h2⟩)
      · exact ⟨0, w, rfl, by rw [h]; rfl⟩
      · exact ⟨j + 1, v, by simpa using h1, by rw [h2]; congr 1; omega⟩
    · rintro ⟨j, v, h1, h2⟩
      match j with
      | 0 =>
        simp at h1
        subst h1
        exact Or.inl (by rw [h2]; rfl)
      | j + 1 => exact Or.inr ⟨j, v, by simpa using h1, by rw [h2]; congr 1; omega⟩
def z_has (ad : Nat → Nat) (ls : Array Slot) (n : Nat) (lv : List (Option z_V)) : Prop := lv_has ls n (z_pairs ad 0 lv)
theorem z_has_at {ad : Nat → Nat} {ls : Array Slot} {n i : Nat} {lv : List (Option z_V)} {v : z_V} (h : z_has ad ls n lv) (hi : lv[i]? = some (some v)) : ls[i]? = some (.val (z_v ad v)) :=
  h.2.2 (i, z_v ad v) (z_pairs_in.mpr ⟨i, v, hi, by simp⟩)
theorem z_has_mono {ad : Nat → Nat} {ls : Array Slot} {n : Nat} {lv lv' : List (Option z_V)} (h : z_has ad ls n lv) (hm : ∀ (i : Nat) (v : z_V), lv'[i]? = some (some v) → lv[i]? = some (some v)) : z_has ad ls n lv' := by
  refine ⟨h.1, h.2.1, fun q hq => ?_⟩
  obtain ⟨j, v, h1, rfl⟩ := z_pairs_in.mp hq
  simpa using z_has_at h (hm j v h1)
/-- not a long (which a store just behind it would break) -/
def z_nl : Option z_V → Bool
  | some (.inr (.inl _)) => false
  | _ => true
theorem z_cat {ad : Nat → Nat} {v : z_V} (h : z_nl (some v) = true) : (z_v ad v).category = 1 := by
  match v with
  | .inl x => rfl
  | .inr (.inl x) => simp [z_nl] at h
  | .inr (.inr k) => rfl
/-- what a store into place i leaves (a value of one word) -/
theorem z_has_st {ad : Nat → Nat} {ls' : Array Slot} {n i : Nat} {lv lv' : List (Option z_V)} {v : z_V}
    (h : lv_has ls' n ((i, z_v ad v) :: (z_pairs ad 0 lv).filter (fun q => !(q.1 == i) && !(q.1 + 1 == i && q.2.category == 2))))
    (h1 : ∀ j w, lv'[j]? = some (some w) → (j = i ∧ w = v) ∨ (j ≠ i ∧ lv[j]? = some (some w) ∧ (j + 1 = i → z_nl (some w) = true))) : z_has ad ls' n lv' := by
  refine ⟨h.1, h.2.1, fun q hq => ?_⟩
  obtain ⟨j, w, hj, rfl⟩ := z_pairs_in.mp hq
  rcases h1 j w hj with ⟨rfl, rfl⟩ | ⟨hne, hl, hc⟩
  · have := h.2.2 (j, z_v ad w) List.mem_cons_self
    simpa using this
  · refine h.2.2 _ (List.mem_cons_of_mem _ (List.mem_filter.mpr ⟨z_pairs_in.mpr ⟨j, w, hl, rfl⟩, ?_⟩))
    simp only [Nat.zero_add, Bool.and_eq_true, Bool.not_eq_true', beq_eq_false_iff_ne, ne_eq, Bool.and_eq_false_iff]
    refine ⟨hne, ?_⟩
    by_cases hji : j + 1 = i
    · right
      rw [z_cat (hc hji)]
      decide
    · exact Or.inl hji
theorem z_has_stL {ad : Nat → Nat} {ls' : Array Slot} {n i : Nat} {lv lv' : List (Option z_V)} {v : z_V}
    (h : lv_has ls' n ((i, z_v ad v) :: (z_pairs ad 0 lv).filter (fun q => !(q.1 == i) && (!(q.1 == i + 1) && !(q.1 + 1 == i && q.2.category == 2)))))
    (h1 : ∀ j w, lv'[j]? = some (some w) → (j = i ∧ w = v) ∨ (j ≠ i ∧ j ≠ i + 1 ∧ lv[j]? = some (some w) ∧ (j + 1 = i → z_nl (some w) = true))) : z_has ad ls' n lv' := by
  refine ⟨h.1, h.2.1, fun q hq => ?_⟩
  obtain ⟨j, w, hj, rfl⟩ := z_pairs_in.mp hq
  rcases h1 j w hj with ⟨rfl, rfl⟩ | ⟨hne, hne2, hl, hc⟩
  · have := h.2.2 (j, z_v ad w) List.mem_cons_self
    simpa using this
  · refine h.2.2 _ (List.mem_cons_of_mem _ (List.mem_filter.mpr ⟨z_pairs_in.mpr ⟨j, w, hl, rfl⟩, ?_⟩))
    simp only [Nat.zero_add, Bool.and_eq_true, Bool.not_eq_true', beq_eq_false_iff_ne, ne_eq, Bool.and_eq_false_iff]
    refine ⟨hne, hne2, ?_⟩
    by_cases hji : j + 1 = i
    · right
      rw [z_cat (hc hji)]
      decide
    · exact Or.inl hji
/-- the locals with which a method begins -/
def z_lv : List z_V → List (Option z_V)
  | [] => []
  | .inr (.inl x) :: r => some (.inr (.inl x)) :: none :: z_lv r
  | .inl x :: r => some (.inl x) :: z_lv r
  | .inr (.inr k) :: r => some (.inr (.inr k)) :: z_lv r
theorem z_lv_args {ad : Nat → Nat} : ∀ (av : List z_V) (i : Nat), lv_args i (av.map (z_v ad)) = z_pairs ad i (z_lv av)
  | [], i => rfl
  | .inr (.inl x) :: r, i => by
    simp only [List.map_cons, lv_args, z_lv, z_pairs, z_v, Value.category]
    rw [← z_lv_args r (i + 1 + 1)]
    rfl
  | .inl x :: r, i => by
    simp only [List.map_cons, lv_args, z_lv, z_pairs, z_v, Value.category]
    rw [← z_lv_args r (i + 1)]
    rfl
  | .inr (.inr k) :: r, i => by
    simp only [List.map_cons, lv_args, z_lv, z_pairs, z_v, Value.category]
    rw [← z_lv_args r (i + 1)]
    rfl
theorem z_lv_len {ad : Nat → Nat} : ∀ (av : List z_V), (lg_sl (av.map (z_v ad))).length = (z_lv av).length
  | [] => rfl
  | .inr (.inl x) :: r => by
    have := z_lv_len (ad := ad) r
    show (lg_sl (.long x :: r.map (z_v ad))).length = (z_lv r).length + 1 + 1
    rw [← this]
    rfl
  | .inl x :: r => by
    have := z_lv_len (ad := ad) r
    show (lg_sl (.int x :: r.map (z_v ad))).length = (z_lv r).length + 1
    rw [← this]
    rfl
  | .inr (.inr k) :: r => by
    have := z_lv_len (ad := ad) r
    show (lg_sl (.ref (ad k) :: r.map (z_v ad))).length = (z_lv r).length + 1
    rw [← this]
    rfl
end
section
/-! a method: its class, name, code, locals, return type -/
abbrev z_M : Type := String × MethodName × ByteArray × Nat × Option FieldType
abbrev z_wl (M : z_M) : List Cond := .code M.2.1 M.2.2.1 M.2.2.2.1 M.2.2.2.2 :: wsL_law
abbrev z_rm (d : Nat) : Room := { frames := d, cells := 0, slots := 0, locals := 32 * d }
abbrev z_tys (cy : z_Cy) : List (ClassId × FieldType) := [(cy.1, .int), (cy.2.1, .boolean), (cy.2.2, .object RX3)]
/-- the words that stand beside the tables: String constants, the row of KINDS above, nest mates -/
def z_sIdx (i : Nat) : String × Nat × String := [(RX5, 52, "grips strength - cold ; hands 3 ; tires 1 ;"), (RX2, 121, "strength"), (RX2, 123, "next"), (RX2, 125, "number"), (RX2, 127, "hour"), (RX2, 129, "cold"), (RX2, 131, "many"), (RX2, 132, "grips"), (RX2, 134, "hands"), (RX2, 136, "tires"), (RX2, 138, "or"), (RX2, 140, "and"), (RX2, 142, "not")].getD i ("", 0, "")
def z_byt : List (List Int32) := [[103, 114, 105, 112, 115, 32, 115, 116, 114, 101, 110, 103, 116, 104, 32, 45, 32, 99, 111, 108, 100, 32, 59, 32, 104, 97, 110, 100, 115, 32, 51, 32, 59, 32, 116, 105, 114, 101, 115, 32, 49, 32, 59], [115, 116, 114, 101, 110, 103, 116, 104], [110, 101, 120, 116], [110, 117, 109, 98, 101, 114], [104, 111, 117, 114], [99, 111, 108, 100], [109, 97, 110, 121], [103, 114, 105, 112, 115], [104, 97, 110, 100, 115], [116, 105, 114, 101, 115], [111, 114], [97, 110, 100], [110, 111, 116]]
def z_len : List Nat := [43, 8, 4, 6, 4, 4, 4, 5, 5, 5, 2, 3, 3]
def z_ka (j : Nat) : Int32 := [-1, 0, 0, 1, 2, 0].getD j 0
def z_Env (ad : Nat → Nat) (A : Nat → Prop) (U : State) (H : Heap) : Prop :=
  va_Nw (.methodLinkNest RX0 101 yX5_bounded RX5) U ∧ va_Nw (.methodLinkNest RX0 107 yX5_isUnder RX5) U ∧
  va_Z RX5 "KIND_ABOVE" "[I" (.ref (ad 2000)) A U H ∧ va_T .int (ad 2000) 6 (fun j => .int (z_ka j)) A U H ∧
  (∀ i, i < 13 → vk_R (z_sIdx i).1 (z_sIdx i).2.1 (z_sIdx i).2.2 (ad (1000 + i)) U) ∧
  vk_S 13 z_len z_byt (fun i => ad (1000 + i)) (fun i => ad (1100 + i)) A U H ∧
  va_Z "java/lang/String" "COMPACT_STRINGS" "Z" (.int 1) A U H
theorem z_Env.same {ad : Nat → Nat} {A : Nat → Prop} {u U : State} {H : Heap} (hv : U.vm = u.vm) (h : z_Env ad A u H) : z_Env ad A U H := by
  have hal : u.vm.Alike U.vm := by rw [hv]; exact Vm.Alike.refl _
  obtain ⟨h1, h2, h3, h4, h5, h6, h7⟩ := h
  exact ⟨va_Nw.same rfl hv.symm h1, va_Nw.same rfl hv.symm h2, va_Z.moved hal h3, va_T.moved hal h4, fun i hi => vk_R.same hv (h5 i hi), vk_S.moved hal h6, va_Z.moved hal h7⟩
theorem z_Env.warm {ad : Nat → Nat} {A : Nat → Prop} {s U : State} {H : Heap} (hW : s.WarmedH U.vm) (h : z_Env ad A s H) : z_Env ad A U H := by
  obtain ⟨h1, h2, h3, h4, h5, h6, h7⟩ := h
  exact ⟨va_Nw.warmM hW h1, va_Nw.warmM hW h2, va_Z.moved hW.alike h3, va_T.moved hW.alike h4, fun i hi => vk_R.warm hW (h5 i hi), vk_S.moved hW.alike h6, va_Z.moved hW.alike h7⟩
theorem z_Env.kept {ad : Nat → Nat} {A : Nat → Prop} {U : State} {H H1 : Heap} (h : z_Env ad A U H) (hq : ∀ a : Nat, a < H.size → ¬ A a → H1[a]? = H[a]?) : z_Env ad A U H1 := by
  obtain ⟨h1, h2, h3, h4, h5, h6, h7⟩ := h
  exact ⟨h1, h2, h3.kept hq, h4.kept hq, h5, h6.kept hq, h7.kept hq⟩
/-- the start and the end of a method over a world -/
def z_Pc (Y : z_Lay) (D : va_G) (ad : Nat → Nat) (cy : z_Cy) (av : List z_V) (σ : z_Mem) : Array Value → State → Prop :=
  va_Pc (av.map (z_v ad)) (fun U => va_P D vwCl (z_ws Y ad cy σ) U.heap ∧ va_K D vwCl (z_tys cy) U ∧ z_Env ad (z_A ad Y.length) U U.heap)
def z_Q (Y : z_Lay) (D : va_G) (ad : Nat → Nat) (cy : z_Cy) (r : Option Value) (σ' : z_Mem) : Array Value → State → Outcome → State → Prop :=
  fun _ st oc t => oc = .returned r ∧ va_P D vwCl (z_ws Y ad cy σ') t.heap ∧ va_F (z_A ad Y.length) st t
def z_inj (Y : z_Lay) (ad : Nat → Nat) : Prop := ∀ i j, i < Y.length → j < Y.length → ad i = ad j → i = j
/-- a call's contract: what the pure function o says, the machine does -/
def z_Call {α : Type} (Y : z_Lay) (M : z_M) (d : Nat) (mk : α → Option z_V) (av : List z_V) (σ : z_Mem) (o : Option (α × z_Mem)) : Prop :=
  ∀ r σ', o = some (r, σ') → ∀ (l : Launch) (D : va_G) (ad : Nat → Nat) (cy : z_Cy), z_inj Y ad →
    Met l M.2.1 (z_wl M) (z_rm d) (z_Pc Y D ad cy av σ) (z_Q Y D ad cy ((mk r).map (z_v ad)) σ') 0 0 (z_A ad Y.length)
def z_F (Y : z_Lay) (M : z_M) (p : Program) (s : State) (m : MethodId) (args : Array Value) (meth : Method) (c : Code) (D : va_G) (ad : Nat → Nat) (cy : z_Cy) : Prop :=
  p.tables.exec = Jvm.exec ∧ c.code = M.2.2.1 ∧ meth.sig.returnType = M.2.2.2.2 ∧ c.maxLocals = M.2.2.2.1 ∧ s.vm.findClass M.1 = some m.cls ∧ (∀ w ∈ wsL_law, w.before args s = true) ∧ meth.locks = false ∧ va_K D vwCl (z_tys cy) s ∧ z_inj Y ad ∧ z_Env ad (z_A ad Y.length) s s.heap
/-- at a place of a method: what the pure function o says, the machine does from there -/
def z_Go {α : Type} (Y : z_Lay) (M : z_M) (d : Nat) (mk : α → Option z_V) (pc : Nat) (lv : List (Option z_V)) (st : List z_V) (σ : z_Mem) (o : Option (α × z_Mem)) : Prop :=
  ∀ r σ', o = some (r, σ') → ∀ (p : Program) (l : Launch) (e : Env) (s : State) (m : MethodId) (args : Array Value) (below : List Frame) (meth : Method) (c : Code) (D : va_G) (ad : Nat → Nat) (cy : z_Cy), z_F Y M p s m args meth c D ad cy →
    ∀ (H : Heap) (locs : List Loc) (ls : Array Slot), va_P D vwCl (z_ws Y ad cy σ) H → va_S (z_A ad Y.length) s.heap H locs → z_has ad ls M.2.2.2.1 lv →
      W p l e (z_rm d) s m args below meth c H locs 0 0 (MQ below (z_Q Y D ad cy ((mk r).map (z_v ad)) σ') args s 0 0 (z_A ad Y.length)) (F0 m pc ls (st.map (z_v ad)))
abbrev z_i (r : Int32) : Option z_V := some (zI r)
abbrev z_l (r : Int64) : Option z_V := some (zL r)
abbrev z_u (_ : Unit) : Option z_V := none
abbrev z_r (k : Nat) : Option z_V := some (zR k)
def z_bd {α β : Type} (o : Option (α × z_Mem)) (k : α → z_Mem → Option (β × z_Mem)) : Option (β × z_Mem) := match o with
  | none => none
  | some q => k q.1 q.2
def z_gd {β : Type} (b : Prop) [Decidable b] (x : Option β) : Option β := if b then x else none
def z_in (i : Int32) (n : Nat) : Prop := 0 ≤ i.toInt ∧ i.toInt < n
def z_dec_in (i : Int32) (n : Nat) : Decidable (z_in i n) := inferInstanceAs (Decidable (_ ∧ _))
theorem z_in_vp {i : Int32} {n : Nat} (h : z_in i n) : vp_in i n := vp_in_iff.mpr h
abbrev z_x (i : Int32) : Nat := i.toNatClampNeg
theorem z_entry {α : Type} {Y : z_Lay} {M : z_M} {d : Nat} {mk : α → Option z_V} {av : List z_V} {σ : z_Mem} {o : Option (α × z_Mem)} {lv : List (Option z_V)} (hy : plainName M.2.1.cls = true) (hM : M.1 = M.2.1.cls) (hn : (z_lv av).length ≤ M.2.2.2.1) (hl : z_lv av ++ List.replicate (M.2.2.2.1 - (z_lv av).length) none = lv)
    (k : z_Go Y M d mk 0 lv [] σ o) : z_Call Y M d mk av σ o := by
  intro r σ' ho l D ad cy hi
  refine Met.ofW (cc := M.2.2.1) (maxL := M.2.2.2.1) (ret := M.2.2.2.2) hy rfl ?_
  intro p e s m args below meth c s₁ B hml hv
  obtain ⟨rfl, hP, hK, hE⟩ := hv
  have hts := atoms_spec (ws := z_wl M) B.pre
  have hown : s.vm.findClass M.1 = some m.cls := by rw [hM]; exact findClass_of_methodNamed B.named
  have hl0 := lv_entry (av.map (z_v ad)) (n := M.2.2.2.1) (by rw [z_lv_len]; exact hn)
  rw [lg_entry_eq]
  generalize (lg_sl (av.map (z_v ad)) ++ List.replicate (M.2.2.2.1 - (lg_sl (av.map (z_v ad))).length) Slot.unset).toArray = ls at hl0 ⊢
  have hl1 : z_has ad ls M.2.2.2.1 (z_lv av) := by
    have := hl0
    rw [z_lv_args] at this
    exact this
  refine k r σ' ho p l e s m _ below meth c D ad cy ⟨B.exec, B.bytes, B.returns, hml, hown, fun w hw => hts w (List.mem_cons_of_mem _ hw), B.notSynchronized, hK, hi, hE⟩ s.heap [] ls hP va_S.rf (z_has_mono hl1 (fun i v h => ?_))
  rw [← hl] at h
  by_cases hlt : i < (z_lv av).length
  · rwa [List.getElem?_append_left hlt] at h
  · rw [List.getElem?_append_right (by omega)] at h
    have := List.eq_of_mem_replicate (List.mem_of_getElem? h)
    cases this
section ZR
variable {α : Type} {Y : z_Lay} {M : z_M} {d : Nat} {mk : α → Option z_V} {pc : Nat} {lv : List (Option z_V)} {st : List z_V} {σ : z_Mem} {o oa ob : Option (α × z_Mem)}
theorem z_none : z_Go Y M d mk pc lv st σ none := fun r σ' ho => by cases ho
theorem z_weak {lv' : List (Option z_V)} (h : ∀ (i : Nat) (v : z_V), lv'[i]? = some (some v) → lv[i]? = some (some v)) (k : z_Go Y M d mk pc lv' st σ o) : z_Go Y M d mk pc lv st σ o :=
  fun r σ' ho p l e s m args below meth c D ad cy F H locs ls hP hS hl => k r σ' ho p l e s m args below meth c D ad cy F H locs ls hP hS (z_has_mono hl h)
theorem z_guard {b : Prop} {ib : Decidable b} (k : b → z_Go Y M d mk pc lv st σ o) : z_Go Y M d mk pc lv st σ (z_gd b o) := by
  intro r σ' ho
  unfold z_gd at ho
  split at ho
  next h => exact k h r σ' ho
  next h => cases ho
theorem z_iload_n {q : Fin 4} {i : Nat} {x : Int32} (hd : decode M.2.2.1 pc = .ok (.iload_n q, 1)) (hi : (q : Nat) = i) (hv : lv[i]? = some (some (zI x))) (k : z_Go Y M d mk (pc + 1) lv (zI x :: st) σ o) : z_Go Y M d mk pc lv st σ o := by
  intro r σ' ho p l e s m args below meth c D ad cy F H locs ls hP hS hl
  obtain ⟨hx, hb, hr, hml, hown, hts, hlk, hK, hij, hE⟩ := id F
  exact lv_iload_n hx hb hd hi (z_has_at hl hv) (k r σ' ho p l e s m args below meth c D ad cy F H locs ls hP hS hl)
theorem z_iload {i : Nat} {x : Int32} (hd : decode M.2.2.1 pc = .ok (.iload i, 2)) (hv : lv[i]? = some (some (zI x))) (k : z_Go Y M d mk (pc + 2) lv (zI x :: st) σ o) : z_Go Y M d mk pc lv st σ o := by
  intro r σ' ho p l e s m args below meth c D ad cy F H locs ls hP hS hl
  obtain ⟨hx, hb, hr, hml, hown, hts, hlk, hK, hij, hE⟩ := id F
  exact lv_iload hx hb hd (z_has_at hl hv) (k r σ' ho p l e s m args below meth c D ad cy F H locs ls hP hS hl)
theorem z_aload_n {q : Fin 4} {i : Nat} {x : Nat} (hd : decode M.2.2.1 pc = .ok (.aload_n q, 1)) (hi : (q : Nat) = i) (hv : lv[i]? = some (some (zR x))) (k : z_Go Y M d mk (pc + 1) lv (zR x :: st) σ o) : z_Go Y M d mk pc lv st σ o := by
  intro r σ' ho p l e s m args below meth c D ad cy F H locs ls hP hS hl
  obtain ⟨hx, hb, hr, hml, hown, hts, hlk, hK, hij, hE⟩ := id F
  exact lv_aload_n hx hb hd hi (z_has_at hl hv) (k r σ' ho p l e s m args below meth c D ad cy F H locs ls hP hS hl)
theorem z_aload {i : Nat} {x : Nat} (hd : decode M.2.2.1 pc = .ok (.aload i, 2)) (hv : lv[i]? = some (some (zR x))) (k : z_Go Y M d mk (pc + 2) lv (zR x :: st) σ o) : z_Go Y M d mk pc lv st σ o := by
  intro r σ' ho p l e s m args below meth c D ad cy F H locs ls hP hS hl
  obtain ⟨hx, hb, hr, hml, hown, hts, hlk, hK, hij, hE⟩ := id F
  exact lv_aload hx hb hd (z_has_at hl hv) (k r σ' ho p l e s m args below meth c D ad cy F H locs ls hP hS hl)
theorem z_lload_n {q : Fin 4} {i : Nat} {x : Int64} (hd : decode M.2.2.1 pc = .ok (.lload_n q, 1)) (hi : (q : Nat) = i) (hv : lv[i]? = some (some (zL x))) (k : z_Go Y M d mk (pc + 1) lv (zL x :: st) σ o) : z_Go Y M d mk pc lv st σ o := by
  intro r σ' ho p l e s m args below meth c D ad cy F H locs ls hP hS hl
  obtain ⟨hx, hb, hr, hml, hown, hts, hlk, hK, hij, hE⟩ := id F
  exact lv_lload_n hx hb hd hi (z_has_at hl hv) (k r σ' ho p l e s m args below meth c D ad cy F H locs ls hP hS hl)
theorem z_lload {i : Nat} {x : Int64} (hd : decode M.2.2.1 pc = .ok (.lload i, 2)) (hv : lv[i]? = some (some (zL x))) (k : z_Go Y M d mk (pc + 2) lv (zL x :: st) σ o) : z_Go Y M d mk pc lv st σ o := by
  intro r σ' ho p l e s m args below meth c D ad cy F H locs ls hP hS hl
  obtain ⟨hx, hb, hr, hml, hown, hts, hlk, hK, hij, hE⟩ := id F
  exact lv_lload hx hb hd (z_has_at hl hv) (k r σ' ho p l e s m args below meth c D ad cy F H locs ls hP hS hl)
theorem z_iconst {n : Int} {v : Int32} (hd : decode M.2.2.1 pc = .ok (.iconst n, 1)) (hv : Int32.ofInt n = v) (k : z_Go Y M d mk (pc + 1) lv (zI v :: st) σ o) : z_Go Y M d mk pc lv st σ o := by
  intro r σ' ho p l e s m args below meth c D ad cy F H locs ls hP hS hl
  obtain ⟨hx, hb, hr, hml, hown, hts, hlk, hK, hij, hE⟩ := id F
  exact lv_iconst hx hb hd hv (k r σ' ho p l e s m args below meth c D ad cy F H locs ls hP hS hl)
theorem z_bipush {n : Int} {v : Int32} (hd : decode M.2.2.1 pc = .ok (.bipush n, 2)) (hv : (Int8.ofInt n).toInt32 = v) (k : z_Go Y M d mk (pc + 2) lv (zI v :: st) σ o) : z_Go Y M d mk pc lv st σ o := by
  intro r σ' ho p l e s m args below meth c D ad cy F H locs ls hP hS hl
  obtain ⟨hx, hb, hr, hml, hown, hts, hlk, hK, hij, hE⟩ := id F
  exact lv_bipush hx hb hd hv (k r σ' ho p l e s m args below meth c D ad cy F H locs ls hP hS hl)
theorem z_sipush {n : Int} {v : Int32} (hd : decode M.2.2.1 pc = .ok (.sipush n, 3)) (hv : (Int16.ofInt n).toInt32 = v) (k : z_Go Y M d mk (pc + 3) lv (zI v :: st) σ o) : z_Go Y M d mk pc lv st σ o := by
  intro r σ' ho p l e s m args below meth c D ad cy F H locs ls hP hS hl
  obtain ⟨hx, hb, hr, hml, hown, hts, hlk, hK, hij, hE⟩ := id F
  exact lv_sipush hx hb hd hv (k r σ' ho p l e s m args below meth c D ad cy F H locs ls hP hS hl)
theorem z_lconst {n : Fin 2} {v : Int64} (hd : decode M.2.2.1 pc = .ok (.lconst n, 1)) (hv : Int64.ofNat (n : Nat) = v) (k : z_Go Y M d mk (pc + 1) lv (zL v :: st) σ o) : z_Go Y M d mk pc lv st σ o := by
  intro r σ' ho p l e s m args below meth c D ad cy F H locs ls hP hS hl
  obtain ⟨hx, hb, hr, hml, hown, hts, hlk, hK, hij, hE⟩ := id F
  exact lv_lconst hx hb hd hv (k r σ' ho p l e s m args below meth c D ad cy F H locs ls hP hS hl)
theorem z_ldc {i : Nat} {v : Int32} (hd : decode M.2.2.1 pc = .ok (.ldc i, 2)) (hw : Jvm.Cond.constant M.1 i v ∈ wsL_law) (k : z_Go Y M d mk (pc + 2) lv (zI v :: st) σ o) : z_Go Y M d mk pc lv st σ o := by
  intro r σ' ho p l e s m args below meth c D ad cy F H locs ls hP hS hl
  obtain ⟨hx, hb, hr, hml, hown, hts, hlk, hK, hij, hE⟩ := id F
  exact lv_ldc hx hb hown (hts _ hw) hd (k r σ' ho p l e s m args below meth c D ad cy F H locs ls hP hS hl)
theorem z_ldc2 {i : Nat} {v : Int64} (hd : decode M.2.2.1 pc = .ok (.ldc2_w i, 3)) (hw : Jvm.Cond.constantLong M.1 i v ∈ wsL_law) (k : z_Go Y M d mk (pc + 3) lv (zL v :: st) σ o) : z_Go Y M d mk pc lv st σ o := by
  intro r σ' ho p l e s m args below meth c D ad cy F H locs ls hP hS hl
  obtain ⟨hx, hb, hr, hml, hown, hts, hlk, hK, hij, hE⟩ := id F
  exact lv_ldc2 hx hb hown (hts _ hw) hd (k r σ' ho p l e s m args below meth c D ad cy F H locs ls hP hS hl)
theorem z_iadd {x y : Int32} (hd : decode M.2.2.1 pc = .ok (.iadd, 1)) (k : z_Go Y M d mk (pc + 1) lv (zI (x + y) :: st) σ o) : z_Go Y M d mk pc lv (zI y :: zI x :: st) σ o := by
  intro r σ' ho p l e s m args below meth c D ad cy F H locs ls hP hS hl
  obtain ⟨hx, hb, hr, hml, hown, hts, hlk, hK, hij, hE⟩ := id F
  exact lv_iadd hx hb hd (k r σ' ho p l e s m args below meth c D ad cy F H locs ls hP hS hl)
theorem z_isub {x y : Int32} (hd : decode M.2.2.1 pc = .ok (.isub, 1)) (k : z_Go Y M d mk (pc + 1) lv (zI (x - y) :: st) σ o) : z_Go Y M d mk pc lv (zI y :: zI x :: st) σ o := by
  intro r σ' ho p l e s m args below meth c D ad cy F H locs ls hP hS hl
  obtain ⟨hx, hb, hr, hml, hown, hts, hlk, hK, hij, hE⟩ := id F
  exact lv_isub hx hb hd (k r σ' ho p l e s m args below meth c D ad cy F H locs ls hP hS hl)
theorem z_imul {x y : Int32} (hd : decode M.2.2.1 pc = .ok (.imul, 1)) (k : z_Go Y M d mk (pc + 1) lv (zI (x * y) :: st) σ o) : z_Go Y M d mk pc lv (zI y :: zI x :: st) σ o := by
  intro r σ' ho p l e s m args below meth c D ad cy F H locs ls hP hS hl
  obtain ⟨hx, hb, hr, hml, hown, hts, hlk, hK, hij, hE⟩ := id F
  exact lv_imul hx hb hd (k r σ' ho p l e s m args below meth c D ad cy F H locs ls hP hS hl)
theorem z_ishl {x y : Int32} (hd : decode M.2.2.1 pc = .ok (.ishl, 1)) (k : z_Go Y M d mk (pc + 1) lv (zI (x <<< (y &&& 31)) :: st) σ o) : z_Go Y M d mk pc lv (zI y :: zI x :: st) σ o := by
  intro r σ' ho p l e s m args below meth c D ad cy F H locs ls hP hS hl
  obtain ⟨hx, hb, hr, hml, hown, hts, hlk, hK, hij, hE⟩ := id F
  exact lv_ishl hx hb hd (k r σ' ho p l e s m args below meth c D ad cy F H locs ls hP hS hl)
theorem z_ishr {x y : Int32} (hd : decode M.2.2.1 pc = .ok (.ishr, 1)) (k : z_Go Y M d mk (pc + 1) lv (zI (x >>> (y &&& 31)) :: st) σ o) : z_Go Y M d mk pc lv (zI y :: zI x :: st) σ o := by
  intro r σ' ho p l e s m args below meth c D ad cy F H locs ls hP hS hl
  obtain ⟨hx, hb, hr, hml, hown, hts, hlk, hK, hij, hE⟩ := id F
  exact lv_ishr hx hb hd (k r σ' ho p l e s m args below meth c D ad cy F H locs ls hP hS hl)
theorem z_iand {x y : Int32} (hd : decode M.2.2.1 pc = .ok (.iand, 1)) (k : z_Go Y M d mk (pc + 1) lv (zI (x &&& y) :: st) σ o) : z_Go Y M d mk pc lv (zI y :: zI x :: st) σ o := by
  intro r σ' ho p l e s m args below meth c D ad cy F H locs ls hP hS hl
  obtain ⟨hx, hb, hr, hml, hown, hts, hlk, hK, hij, hE⟩ := id F
  exact lv_iand hx hb hd (k r σ' ho p l e s m args below meth c D ad cy F H locs ls hP hS hl)
theorem z_ior {x y : Int32} (hd : decode M.2.2.1 pc = .ok (.ior, 1)) (k : z_Go Y M d mk (pc + 1) lv (zI (x ||| y) :: st) σ o) : z_Go Y M d mk pc lv (zI y :: zI x :: st) σ o := by
  intro r σ' ho p l e s m args below meth c D ad cy F H locs ls hP hS hl
  obtain ⟨hx, hb, hr, hml, hown, hts, hlk, hK, hij, hE⟩ := id F
  exact lv_ior hx hb hd (k r σ' ho p l e s m args below meth c D ad cy F H locs ls hP hS hl)
theorem z_iushr {x y : Int32} (hd : decode M.2.2.1 pc = .ok (.iushr, 1)) (k : z_Go Y M d mk (pc + 1) lv (zI (x.toUInt32 >>> (y.toUInt32 &&& Int32.toUInt32 31)).toInt32 :: st) σ o) : z_Go Y M d mk pc lv (zI y :: zI x :: st) σ o := by
  intro r σ' ho p l e s m args below meth c D ad cy F H locs ls hP hS hl
  obtain ⟨hx, hb, hr, hml, hown, hts, hlk, hK, hij, hE⟩ := id F
  exact lv_iushr hx hb hd rfl (k r σ' ho p l e s m args below meth c D ad cy F H locs ls hP hS hl)
theorem z_ineg {x : Int32} (hd : decode M.2.2.1 pc = .ok (.ineg, 1)) (k : z_Go Y M d mk (pc + 1) lv (zI (-x) :: st) σ o) : z_Go Y M d mk pc lv (zI x :: st) σ o := by
  intro r σ' ho p l e s m args below meth c D ad cy F H locs ls hP hS hl
  obtain ⟨hx, hb, hr, hml, hown, hts, hlk, hK, hij, hE⟩ := id F
  exact lv_ineg hx hb hd (k r σ' ho p l e s m args below meth c D ad cy F H locs ls hP hS hl)
theorem z_idiv {x y : Int32} {ib : Decidable (¬ y = 0)} (hd : decode M.2.2.1 pc = .ok (.idiv, 1)) (k : z_Go Y M d mk (pc + 1) lv (zI (x / y) :: st) σ o) : z_Go Y M d mk pc lv (zI y :: zI x :: st) σ (z_gd (¬ y = 0) o) := by
  refine z_guard fun hne => ?_
  intro r σ' ho p l e s m args below meth c D ad cy F H locs ls hP hS hl
  obtain ⟨hx, hb, hr, hml, hown, hts, hlk, hK, hij, hE⟩ := id F
  exact lv_idiv hx hb hd hne (k r σ' ho p l e s m args below meth c D ad cy F H locs ls hP hS hl)
theorem z_irem {x y : Int32} {ib : Decidable (¬ y = 0)} (hd : decode M.2.2.1 pc = .ok (.irem, 1)) (k : z_Go Y M d mk (pc + 1) lv (zI (x - x / y * y) :: st) σ o) : z_Go Y M d mk pc lv (zI y :: zI x :: st) σ (z_gd (¬ y = 0) o) := by
  refine z_guard fun hne => ?_
  intro r σ' ho p l e s m args below meth c D ad cy F H locs ls hP hS hl
  obtain ⟨hx, hb, hr, hml, hown, hts, hlk, hK, hij, hE⟩ := id F
  exact lv_irem hx hb hd hne (k r σ' ho p l e s m args below meth c D ad cy F H locs ls hP hS hl)
theorem z_ldiv {x y : Int64} {ib : Decidable (¬ y = 0)} (hd : decode M.2.2.1 pc = .ok (.ldiv, 1)) (k : z_Go Y M d mk (pc + 1) lv (zL (x / y) :: st) σ o) : z_Go Y M d mk pc lv (zL y :: zL x :: st) σ (z_gd (¬ y = 0) o) := by
  refine z_guard fun hne => ?_
  intro r σ' ho p l e s m args below meth c D ad cy F H locs ls hP hS hl
  obtain ⟨hx, hb, hr, hml, hown, hts, hlk, hK, hij, hE⟩ := id F
  exact lv_ldiv hx hb hd hne (k r σ' ho p l e s m args below meth c D ad cy F H locs ls hP hS hl)
theorem z_lrem {x y : Int64} {ib : Decidable (¬ y = 0)} (hd : decode M.2.2.1 pc = .ok (.lrem, 1)) (k : z_Go Y M d mk (pc + 1) lv (zL (x - x / y * y) :: st) σ o) : z_Go Y M d mk pc lv (zL y :: zL x :: st) σ (z_gd (¬ y = 0) o) := by
  refine z_guard fun hne => ?_
  intro r σ' ho p l e s m args below meth c D ad cy F H locs ls hP hS hl
  obtain ⟨hx, hb, hr, hml, hown, hts, hlk, hK, hij, hE⟩ := id F
  exact lv_lrem hx hb hd hne (k r σ' ho p l e s m args below meth c D ad cy F H locs ls hP hS hl)
theorem z_ladd {x y : Int64} (hd : decode M.2.2.1 pc = .ok (.ladd, 1)) (k : z_Go Y M d mk (pc + 1) lv (zL (x + y) :: st) σ o) : z_Go Y M d mk pc lv (zL y :: zL x :: st) σ o := by
  intro r σ' ho p l e s m args below meth c D ad cy F H locs ls hP hS hl
  obtain ⟨hx, hb, hr, hml, hown, hts, hlk, hK, hij, hE⟩ := id F
  exact lv_ladd hx hb hd (k r σ' ho p l e s m args below meth c D ad cy F H locs ls hP hS hl)
theorem z_lsub {x y : Int64} (hd : decode M.2.2.1 pc = .ok (.lsub, 1)) (k : z_Go Y M d mk (pc + 1) lv (zL (x - y) :: st) σ o) : z_Go Y M d mk pc lv (zL y :: zL x :: st) σ o := by
  intro r σ' ho p l e s m args below meth c D ad cy F H locs ls hP hS hl
  obtain ⟨hx, hb, hr, hml, hown, hts, hlk, hK, hij, hE⟩ := id F
  exact lv_lsub hx hb hd (k r σ' ho p l e s m args below meth c D ad cy F H locs ls hP hS hl)
theorem z_lmul {x y : Int64} (hd : decode M.2.2.1 pc = .ok (.lmul, 1)) (k : z_Go Y M d mk (pc + 1) lv (zL (x * y) :: st) σ o) : z_Go Y M d mk pc lv (zL y :: zL x :: st) σ o := by
  intro r σ' ho p l e s m args below meth c D ad cy F H locs ls hP hS hl
  obtain ⟨hx, hb, hr, hml, hown, hts, hlk, hK, hij, hE⟩ := id F
  exact lv_lmul hx hb hd (k r σ' ho p l e s m args below meth c D ad cy F H locs ls hP hS hl)
theorem z_lcmp {x y : Int64} (hd : decode M.2.2.1 pc = .ok (.lcmp, 1)) (k : z_Go Y M d mk (pc + 1) lv (zI (lg_cmp x y) :: st) σ o) : z_Go Y M d mk pc lv (zL y :: zL x :: st) σ o := by
  intro r σ' ho p l e s m args below meth c D ad cy F H locs ls hP hS hl
  obtain ⟨hx, hb, hr, hml, hown, hts, hlk, hK, hij, hE⟩ := id F
  exact W.lcmp hx hb hd (k r σ' ho p l e s m args below meth c D ad cy F H locs ls hP hS hl)
theorem z_i2l {x : Int32} (hd : decode M.2.2.1 pc = .ok (.i2l, 1)) (k : z_Go Y M d mk (pc + 1) lv (zL (x.toInt64) :: st) σ o) : z_Go Y M d mk pc lv (zI x :: st) σ o := by
  intro r σ' ho p l e s m args below meth c D ad cy F H locs ls hP hS hl
  obtain ⟨hx, hb, hr, hml, hown, hts, hlk, hK, hij, hE⟩ := id F
  exact lv_i2l hx hb hd rfl (k r σ' ho p l e s m args below meth c D ad cy F H locs ls hP hS hl)
theorem z_l2i {x : Int64} (hd : decode M.2.2.1 pc = .ok (.l2i, 1)) (k : z_Go Y M d mk (pc + 1) lv (zI (x.toInt32) :: st) σ o) : z_Go Y M d mk pc lv (zL x :: st) σ o := by
  intro r σ' ho p l e s m args below meth c D ad cy F H locs ls hP hS hl
  obtain ⟨hx, hb, hr, hml, hown, hts, hlk, hK, hij, hE⟩ := id F
  exact lv_l2i hx hb hd rfl (k r σ' ho p l e s m args below meth c D ad cy F H locs ls hP hS hl)
theorem z_i2b {x : Int32} (hd : decode M.2.2.1 pc = .ok (.i2b, 1)) (k : z_Go Y M d mk (pc + 1) lv (zI (x.toInt8.toInt32) :: st) σ o) : z_Go Y M d mk pc lv (zI x :: st) σ o := by
  intro r σ' ho p l e s m args below meth c D ad cy F H locs ls hP hS hl
  obtain ⟨hx, hb, hr, hml, hown, hts, hlk, hK, hij, hE⟩ := id F
  exact lv_i2b hx hb hd rfl (k r σ' ho p l e s m args below meth c D ad cy F H locs ls hP hS hl)
theorem z_i2s {x : Int32} (hd : decode M.2.2.1 pc = .ok (.i2s, 1)) (k : z_Go Y M d mk (pc + 1) lv (zI (x.toInt16.toInt32) :: st) σ o) : z_Go Y M d mk pc lv (zI x :: st) σ o := by
  intro r σ' ho p l e s m args below meth c D ad cy F H locs ls hP hS hl
  obtain ⟨hx, hb, hr, hml, hown, hts, hlk, hK, hij, hE⟩ := id F
  exact lv_i2s hx hb hd rfl (k r σ' ho p l e s m args below meth c D ad cy F H locs ls hP hS hl)
theorem z_icmp_eq {x y : Int32} {off : Int} {tgt : Nat} {ib : Decidable (x = y)} (hd : decode M.2.2.1 pc = .ok (.if_icmp .eq off, 3)) (ht : (pc : Int) + off = (tgt : Int)) (ka : x = y → z_Go Y M d mk tgt lv st σ oa) (kb : ¬ x = y → z_Go Y M d mk (pc + 3) lv st σ ob) : z_Go Y M d mk pc lv (zI y :: zI x :: st) σ (if x = y then oa else ob) := by
  intro r σ' ho p l e s m args below meth c D ad cy F H locs ls hP hS hl
  obtain ⟨hx, hb, hr, hml, hown, hts, hlk, hK, hij, hE⟩ := id F
  refine lv_icmp_eq hx hb hd ht (fun q => ?_) (fun q => ?_)
  · rw [if_pos q] at ho
    exact ka q r σ' ho p l e s m args below meth c D ad cy F H locs ls hP hS hl
  · rw [if_neg q] at ho
    exact kb q r σ' ho p l e s m args below meth c D ad cy F H locs ls hP hS hl
theorem z_if_eq {x : Int32} {off : Int} {tgt : Nat} {ib : Decidable (x = 0)} (hd : decode M.2.2.1 pc = .ok (.ifCond .eq off, 3)) (ht : (pc : Int) + off = (tgt : Int)) (ka : x = 0 → z_Go Y M d mk tgt lv st σ oa) (kb : ¬ x = 0 → z_Go Y M d mk (pc + 3) lv st σ ob) : z_Go Y M d mk pc lv (zI x :: st) σ (if x = 0 then oa else ob) := by
  intro r σ' ho p l e s m args below meth c D ad cy F H locs ls hP hS hl
  obtain ⟨hx, hb, hr, hml, hown, hts, hlk, hK, hij, hE⟩ := id F
  refine lv_if_eq hx hb hd ht (fun q => ?_) (fun q => ?_)
  · rw [if_pos q] at ho
    exact ka q r σ' ho p l e s m args below meth c D ad cy F H locs ls hP hS hl
  · rw [if_neg q] at ho
    exact kb q r σ' ho p l e s m args below meth c D ad cy F H locs ls hP hS hl
theorem z_icmp_lt {x y : Int32} {off : Int} {tgt : Nat} {ib : Decidable (x < y)} (hd : decode M.2.2.1 pc = .ok (.if_icmp .lt off, 3)) (ht : (pc : Int) + off = (tgt : Int)) (ka : x < y → z_Go Y M d mk tgt lv st σ oa) (kb : ¬ x < y → z_Go Y M d mk (pc + 3) lv st σ ob) : z_Go Y M d mk pc lv (zI y :: zI x :: st) σ (if x < y then oa else ob) := by
  intro r σ' ho p l e s m args below meth c D ad cy F H locs ls hP hS hl
  obtain ⟨hx, hb, hr, hml, hown, hts, hlk, hK, hij, hE⟩ := id F
  refine lv_icmp_lt hx hb hd ht (fun q => ?_) (fun q => ?_)
  · rw [if_pos q] at ho
    exact ka q r σ' ho p l e s m args below meth c D ad cy F H locs ls hP hS hl
  · rw [if_neg q] at ho
    exact kb q r σ' ho p l e s m args below meth c D ad cy F H locs ls hP hS hl
theorem z_if_lt {x : Int32} {off : Int} {tgt : Nat} {ib : Decidable (x < 0)} (hd : decode M.2.2.1 pc = .ok (.ifCond .lt off, 3)) (ht : (pc : Int) + off = (tgt : Int)) (ka : x < 0 → z_Go Y M d mk tgt lv st σ oa) (kb : ¬ x < 0 → z_Go Y M d mk (pc + 3) lv st σ ob) : z_Go Y M d mk pc lv (zI x :: st) σ (if x < 0 then oa else ob) := by
  intro r σ' ho p l e s m args below meth c D ad cy F H locs ls hP hS hl
  obtain ⟨hx, hb, hr, hml, hown, hts, hlk, hK, hij, hE⟩ := id F
  refine lv_if_lt hx hb hd ht (fun q => ?_) (fun q => ?_)
  · rw [if_pos q] at ho
    exact ka q r σ' ho p l e s m args below meth c D ad cy F H locs ls hP hS hl
  · rw [if_neg q] at ho
    exact kb q r σ' ho p l e s m args below meth c D ad cy F H locs ls hP hS hl
theorem z_icmp_ge {x y : Int32} {off : Int} {tgt : Nat} {ib : Decidable (y ≤ x)} (hd : decode M.2.2.1 pc = .ok (.if_icmp .ge off, 3)) (ht : (pc : Int) + off = (tgt : Int)) (ka : y ≤ x → z_Go Y M d mk tgt lv st σ oa) (kb : ¬ y ≤ x → z_Go Y M d mk (pc + 3) lv st σ ob) : z_Go Y M d mk pc lv (zI y :: zI x :: st) σ (if y ≤ x then oa else ob) := by
  intro r σ' ho p l e s m args below meth c D ad cy F H locs ls hP hS hl
  obtain ⟨hx, hb, hr, hml, hown, hts, hlk, hK, hij, hE⟩ := id F
  refine lv_icmp_ge hx hb hd ht (fun q => ?_) (fun q => ?_)
  · rw [if_pos q] at ho
    exact ka q r σ' ho p l e s m args below meth c D ad cy F H locs ls hP hS hl
  · rw [if_neg q] at ho
    exact kb q r σ' ho p l e s m args below meth c D ad cy F H locs ls hP hS hl
theorem z_if_ge {x : Int32} {off : Int} {tgt : Nat} {ib : Decidable (0 ≤ x)} (hd : decode M.2.2.1 pc = .ok (.ifCond .ge off, 3)) (ht : (pc : Int) + off = (tgt : Int)) (ka : 0 ≤ x → z_Go Y M d mk tgt lv st σ oa) (kb : ¬ 0 ≤ x → z_Go Y M d mk (pc + 3) lv st σ ob) : z_Go Y M d mk pc lv (zI x :: st) σ (if 0 ≤ x then oa else ob) := by
  intro r σ' ho p l e s m args below meth c D ad cy F H locs ls hP hS hl
  obtain ⟨hx, hb, hr, hml, hown, hts, hlk, hK, hij, hE⟩ := id F
  refine lv_if_ge hx hb hd ht (fun q => ?_) (fun q => ?_)
  · rw [if_pos q] at ho
    exact ka q r σ' ho p l e s m args below meth c D ad cy F H locs ls hP hS hl
  · rw [if_neg q] at ho
    exact kb q r σ' ho p l e s m args below meth c D ad cy F H locs ls hP hS hl
theorem z_icmp_gt {x y : Int32} {off : Int} {tgt : Nat} {ib : Decidable (y < x)} (hd : decode M.2.2.1 pc = .ok (.if_icmp .gt off, 3)) (ht : (pc : Int) + off = (tgt : Int)) (ka : y < x → z_Go Y M d mk tgt lv st σ oa) (kb : ¬ y < x → z_Go Y M d mk (pc + 3) lv st σ ob) : z_Go Y M d mk pc lv (zI y :: zI x :: st) σ (if y < x then oa else ob) := by
  intro r σ' ho p l e s m args below meth c D ad cy F H locs ls hP hS hl
  obtain ⟨hx, hb, hr, hml, hown, hts, hlk, hK, hij, hE⟩ := id F
  refine lv_icmp_gt hx hb hd ht (fun q => ?_) (fun q => ?_)
  · rw [if_pos q] at ho
    exact ka q r σ' ho p l e s m args below meth c D ad cy F H locs ls hP hS hl
  · rw [if_neg q] at ho
    exact kb q r σ' ho p l e s m args below meth c D ad cy F H locs ls hP hS hl
theorem z_if_gt {x : Int32} {off : Int} {tgt : Nat} {ib : Decidable (0 < x)} (hd : decode M.2.2.1 pc = .ok (.ifCond .gt off, 3)) (ht : (pc : Int) + off = (tgt : Int)) (ka : 0 < x → z_Go Y M d mk tgt lv st σ oa) (kb : ¬ 0 < x → z_Go Y M d mk (pc + 3) lv st σ ob) : z_Go Y M d mk pc lv (zI x :: st) σ (if 0 < x then oa else ob) := by
  intro r σ' ho p l e s m args below meth c D ad cy F H locs ls hP hS hl
  obtain ⟨hx, hb, hr, hml, hown, hts, hlk, hK, hij, hE⟩ := id F
  refine lv_if_gt hx hb hd ht (fun q => ?_) (fun q => ?_)
  · rw [if_pos q] at ho
    exact ka q r σ' ho p l e s m args below meth c D ad cy F H locs ls hP hS hl
  · rw [if_neg q] at ho
    exact kb q r σ' ho p l e s m args below meth c D ad cy F H locs ls hP hS hl
theorem z_icmp_le {x y : Int32} {off : Int} {tgt : Nat} {ib : Decidable (x ≤ y)} (hd : decode M.2.2.1 pc = .ok (.if_icmp .le off, 3)) (ht : (pc : Int) + off = (tgt : Int)) (ka : x ≤ y → z_Go Y M d mk tgt lv st σ oa) (kb : ¬ x ≤ y → z_Go Y M d mk (pc + 3) lv st σ ob) : z_Go Y M d mk pc lv (zI y :: zI x :: st) σ (if x ≤ y then oa else ob) := by
  intro r σ' ho p l e s m args below meth c D ad cy F H locs ls hP hS hl
  obtain ⟨hx, hb, hr, hml, hown, hts, hlk, hK, hij, hE⟩ := id F
  refine lv_icmp_le hx hb hd ht (fun q => ?_) (fun q => ?_)
  · rw [if_pos q] at ho
    exact ka q r σ' ho p l e s m args below meth c D ad cy F H locs ls hP hS hl
  · rw [if_neg q] at ho
    exact kb q r σ' ho p l e s m args below meth c D ad cy F H locs ls hP hS hl
theorem z_if_le {x : Int32} {off : Int} {tgt : Nat} {ib : Decidable (x ≤ 0)} (hd : decode M.2.2.1 pc = .ok (.ifCond .le off, 3)) (ht : (pc : Int) + off = (tgt : Int)) (ka : x ≤ 0 → z_Go Y M d mk tgt lv st σ oa) (kb : ¬ x ≤ 0 → z_Go Y M d mk (pc + 3) lv st σ ob) : z_Go Y M d mk pc lv (zI x :: st) σ (if x ≤ 0 then oa else ob) := by
  intro r σ' ho p l e s m args below meth c D ad cy F H locs ls hP hS hl
  obtain ⟨hx, hb, hr, hml, hown, hts, hlk, hK, hij, hE⟩ := id F
  refine lv_if_le hx hb hd ht (fun q => ?_) (fun q => ?_)
  · rw [if_pos q] at ho
    exact ka q r σ' ho p l e s m args below meth c D ad cy F H locs ls hP hS hl
  · rw [if_neg q] at ho
    exact kb q r σ' ho p l e s m args below meth c D ad cy F H locs ls hP hS hl
theorem z_icmp_ne {x y : Int32} {off : Int} {tgt : Nat} {ib : Decidable (x = y)} (hd : decode M.2.2.1 pc = .ok (.if_icmp .ne off, 3)) (ht : (pc : Int) + off = (tgt : Int)) (kb : ¬ x = y → z_Go Y M d mk tgt lv st σ ob) (ka : x = y → z_Go Y M d mk (pc + 3) lv st σ oa) : z_Go Y M d mk pc lv (zI y :: zI x :: st) σ (if x = y then oa else ob) := by
  intro r σ' ho p l e s m args below meth c D ad cy F H locs ls hP hS hl
  obtain ⟨hx, hb, hr, hml, hown, hts, hlk, hK, hij, hE⟩ := id F
  refine lv_icmp_ne hx hb hd ht (fun q => ?_) (fun q => ?_)
  · rw [if_neg q] at ho
    exact kb q r σ' ho p l e s m args below meth c D ad cy F H locs ls hP hS hl
  · rw [if_pos q] at ho
    exact ka q r σ' ho p l e s m args below meth c D ad cy F H locs ls hP hS hl
theorem z_if_ne {x : Int32} {off : Int} {tgt : Nat} {ib : Decidable (x = 0)} (hd : decode M.2.2.1 pc = .ok (.ifCond .ne off, 3)) (ht : (pc : Int) + off = (tgt : Int)) (kb : ¬ x = 0 → z_Go Y M d mk tgt lv st σ ob) (ka : x = 0 → z_Go Y M d mk (pc + 3) lv st σ oa) : z_Go Y M d mk pc lv (zI x :: st) σ (if x = 0 then oa else ob) := by
  intro r σ' ho p l e s m args below meth c D ad cy F H locs ls hP hS hl
  obtain ⟨hx, hb, hr, hml, hown, hts, hlk, hK, hij, hE⟩ := id F
  refine lv_if_ne hx hb hd ht (fun q => ?_) (fun q => ?_)
  · rw [if_neg q] at ho
    exact kb q r σ' ho p l e s m args below meth c D ad cy F H locs ls hP hS hl
  · rw [if_pos q] at ho
    exact ka q r σ' ho p l e s m args below meth c D ad cy F H locs ls hP hS hl
theorem z_goto {off : Int} {tgt : Nat} (hd : decode M.2.2.1 pc = .ok (.goto off, 3)) (ht : (pc : Int) + off = (tgt : Int)) (k : z_Go Y M d mk tgt lv st σ o) : z_Go Y M d mk pc lv st σ o := by
  intro r σ' ho p l e s m args below meth c D ad cy F H locs ls hP hS hl
  obtain ⟨hx, hb, hr, hml, hown, hts, hlk, hK, hij, hE⟩ := id F
  exact lv_goto hx hb hd ht (k r σ' ho p l e s m args below meth c D ad cy F H locs ls hP hS hl)
theorem z_dup {v : z_V} (hd : decode M.2.2.1 pc = .ok (.dup, 1)) (hv : z_nl (some v) = true) (k : z_Go Y M d mk (pc + 1) lv (v :: v :: st) σ o) : z_Go Y M d mk pc lv (v :: st) σ o := by
  intro r σ' ho p l e s m args below meth c D ad cy F H locs ls hP hS hl
  obtain ⟨hx, hb, hr, hml, hown, hts, hlk, hK, hij, hE⟩ := id F
  exact lv_dup hx hb hd (z_cat hv) (k r σ' ho p l e s m args below meth c D ad cy F H locs ls hP hS hl)
theorem z_pop {v : z_V} (hd : decode M.2.2.1 pc = .ok (.pop, 1)) (hv : z_nl (some v) = true) (k : z_Go Y M d mk (pc + 1) lv st σ o) : z_Go Y M d mk pc lv (v :: st) σ o := by
  intro r σ' ho p l e s m args below meth c D ad cy F H locs ls hP hS hl
  obtain ⟨hx, hb, hr, hml, hown, hts, hlk, hK, hij, hE⟩ := id F
  exact lv_pop hx hb hd (z_cat hv) (k r σ' ho p l e s m args below meth c D ad cy F H locs ls hP hS hl)
/-- a store of one word: the places that lv' still knows -/
def z_stOk (lv lv' : List (Option z_V)) (i : Nat) (v : z_V) : Prop := ∀ j w, lv'[j]? = some (some w) → (j = i ∧ w = v) ∨ (j ≠ i ∧ lv[j]? = some (some w) ∧ (j + 1 = i → z_nl (some w) = true))
def z_stOkL (lv lv' : List (Option z_V)) (i : Nat) (v : z_V) : Prop := ∀ j w, lv'[j]? = some (some w) → (j = i ∧ w = v) ∨ (j ≠ i ∧ j ≠ i + 1 ∧ lv[j]? = some (some w) ∧ (j + 1 = i → z_nl (some w) = true))
theorem z_istore_n {q : Fin 4} {i : Nat} {x : Int32} {lv' : List (Option z_V)} (hd : decode M.2.2.1 pc = .ok (.istore_n q, 1)) (hi : (q : Nat) = i) (hn : i < M.2.2.2.1) (hs : z_stOk lv lv' i (zI x)) (k : z_Go Y M d mk (pc + 1) lv' st σ o) : z_Go Y M d mk pc lv (zI x :: st) σ o := by
  intro r σ' ho p l e s m args below meth c D ad cy F H locs ls hP hS hl
  obtain ⟨hx, hb, hr, hml, hown, hts, hlk, hK, hij, hE⟩ := id F
  exact lv_istore_n hx hb hd hi hl hn rfl (fun ls' hl' => k r σ' ho p l e s m args below meth c D ad cy F H locs ls' hP hS (z_has_st (v := zI x) hl' hs))
theorem z_istore {i : Nat} {x : Int32} {lv' : List (Option z_V)} (hd : decode M.2.2.1 pc = .ok (.istore i, 2)) (hn : i < M.2.2.2.1) (hs : z_stOk lv lv' i (zI x)) (k : z_Go Y M d mk (pc + 2) lv' st σ o) : z_Go Y M d mk pc lv (zI x :: st) σ o := by
  intro r σ' ho p l e s m args below meth c D ad cy F H locs ls hP hS hl
  obtain ⟨hx, hb, hr, hml, hown, hts, hlk, hK, hij, hE⟩ := id F
  exact lv_istore hx hb hd hl hn rfl (fun ls' hl' => k r σ' ho p l e s m args below meth c D ad cy F H locs ls' hP hS (z_has_st (v := zI x) hl' hs))
theorem z_astore_n {q : Fin 4} {i : Nat} {x : Nat} {lv' : List (Option z_V)} (hd : decode M.2.2.1 pc = .ok (.astore_n q, 1)) (hi : (q : Nat) = i) (hn : i < M.2.2.2.1) (hs : z_stOk lv lv' i (zR x)) (k : z_Go Y M d mk (pc + 1) lv' st σ o) : z_Go Y M d mk pc lv (zR x :: st) σ o := by
  intro r σ' ho p l e s m args below meth c D ad cy F H locs ls hP hS hl
  obtain ⟨hx, hb, hr, hml, hown, hts, hlk, hK, hij, hE⟩ := id F
  exact lv_astore_n hx hb hd hi hl hn rfl (fun ls' hl' => k r σ' ho p l e s m args below meth c D ad cy F H locs ls' hP hS (z_has_st (v := zR x) hl' hs))
theorem z_astore {i : Nat} {x : Nat} {lv' : List (Option z_V)} (hd : decode M.2.2.1 pc = .ok (.astore i, 2)) (hn : i < M.2.2.2.1) (hs : z_stOk lv lv' i (zR x)) (k : z_Go Y M d mk (pc + 2) lv' st σ o) : z_Go Y M d mk pc lv (zR x :: st) σ o := by
  intro r σ' ho p l e s m args below meth c D ad cy F H locs ls hP hS hl
  obtain ⟨hx, hb, hr, hml, hown, hts, hlk, hK, hij, hE⟩ := id F
  exact lv_astore hx hb hd hl hn rfl (fun ls' hl' => k r σ' ho p l e s m args below meth c D ad cy F H locs ls' hP hS (z_has_st (v := zR x) hl' hs))
theorem z_lstore {i : Nat} {x : Int64} {lv' : List (Option z_V)} (hd : decode M.2.2.1 pc = .ok (.lstore i, 2)) (hn : i + 1 < M.2.2.2.1) (hs : z_stOkL lv lv' i (zL x)) (k : z_Go Y M d mk (pc + 2) lv' st σ o) : z_Go Y M d mk pc lv (zL x :: st) σ o := by
  intro r σ' ho p l e s m args below meth c D ad cy F H locs ls hP hS hl
  obtain ⟨hx, hb, hr, hml, hown, hts, hlk, hK, hij, hE⟩ := id F
  exact lv_lstore hx hb hd hl hn rfl (fun ls' hl' => k r σ' ho p l e s m args below meth c D ad cy F H locs ls' hP hS (z_has_stL (v := zL x) hl' hs))
/-! fields -/
theorem z_at_k {cl : List vw_C} {ci : Nat} {C : String} {T : u_T} {N : Nat} (h : cl[ci]? = some (C, T, N)) : cl[ci]? = some (C, T, N) := h
theorem z_get_fs {ad : Nat → Nat} {σ : z_Mem} {k j t : Nat} {ts : List Nat} (h : ts[j]? = some t) : (ts.mapIdx (fun j t => z_slot ad σ k j t))[j]? = some (z_slot ad σ k j t) := by simp [h]
theorem z_getf {k ci j t i N : Nat} {ts : List Nat} {C : String} {T : u_T} {v : z_V} (hd : decode M.2.2.1 pc = .ok (.getfield i, 3)) (hY : Y[k]? = some (.inl (ci, ts))) (hc : vwCl[ci]? = some (C, T, N)) (hu : ∀ w ∈ u_ws C T N, w ∈ wsL_law) (hw : Cond.fieldLink M.1 i C (T j).2.1 (T j).2.2.1 ∈ wsL_law) (hT : (T j).1 = C) (hj : j < N) (ht : ts[j]? = some t) (hv : ∀ ad, z_slot ad σ k j t = z_v ad v) (kk : z_Go Y M d mk (pc + 3) lv (v :: st) σ o) : z_Go Y M d mk pc lv (zR k :: st) σ o := by
  intro r σ' ho p l e s m args below meth c D ad cy F H locs ls hP hS hl
  obtain ⟨hx, hb, hr, hml, hown, hts, hlk, hK, hij, hE⟩ := id F
  exact va_get hx hb hts hu hown hK hP k (z_ws_get hY) hc j hj (hts _ hw) (fun x h => by rw [← hT]; exact h) (v := z_v ad v) (by rw [← hv ad]; exact z_get_fs ht) hd (kk r σ' ho p l e s m args below meth c D ad cy F H locs ls hP hS hl)
theorem z_getI {k ci j i N : Nat} {ts : List Nat} {C : String} {T : u_T} (hd : decode M.2.2.1 pc = .ok (.getfield i, 3)) (hY : Y[k]? = some (.inl (ci, ts))) (hc : vwCl[ci]? = some (C, T, N)) (hu : ∀ w ∈ u_ws C T N, w ∈ wsL_law) (hw : Cond.fieldLink M.1 i C (T j).2.1 (T j).2.2.1 ∈ wsL_law) (hT : (T j).1 = C) (hj : j < N) (ht : ts[j]? = some 0) (kk : z_Go Y M d mk (pc + 3) lv (zI (σ.1 k j) :: st) σ o) : z_Go Y M d mk pc lv (zR k :: st) σ o :=
  z_getf hd hY hc hu hw hT hj ht (fun _ => rfl) kk
theorem z_getL {k ci j i N : Nat} {ts : List Nat} {C : String} {T : u_T} (hd : decode M.2.2.1 pc = .ok (.getfield i, 3)) (hY : Y[k]? = some (.inl (ci, ts))) (hc : vwCl[ci]? = some (C, T, N)) (hu : ∀ w ∈ u_ws C T N, w ∈ wsL_law) (hw : Cond.fieldLink M.1 i C (T j).2.1 (T j).2.2.1 ∈ wsL_law) (hT : (T j).1 = C) (hj : j < N) (ht : ts[j]? = some 1) (kk : z_Go Y M d mk (pc + 3) lv (zL (σ.2 k j) :: st) σ o) : z_Go Y M d mk pc lv (zR k :: st) σ o :=
  z_getf hd hY hc hu hw hT hj ht (fun _ => rfl) kk
theorem z_getR {k ci j i N t : Nat} {ts : List Nat} {C : String} {T : u_T} (hd : decode M.2.2.1 pc = .ok (.getfield i, 3)) (hY : Y[k]? = some (.inl (ci, ts))) (hc : vwCl[ci]? = some (C, T, N)) (hu : ∀ w ∈ u_ws C T N, w ∈ wsL_law) (hw : Cond.fieldLink M.1 i C (T j).2.1 (T j).2.2.1 ∈ wsL_law) (hT : (T j).1 = C) (hj : j < N) (ht : ts[j]? = some (t + 2)) (kk : z_Go Y M d mk (pc + 3) lv (zR t :: st) σ o) : z_Go Y M d mk pc lv (zR k :: st) σ o :=
  z_getf hd hY hc hu hw hT hj ht (fun _ => rfl) kk
theorem z_putI {k ci j i N : Nat} {ts : List Nat} {C : String} {T : u_T} {x : Int32} {ty : FieldType} {ty0 : Nat → FieldType} (hd : decode M.2.2.1 pc = .ok (.putfield i, 3)) (hY : Y[k]? = some (.inl (ci, ts))) (hc : vwCl[ci]? = some (C, T, N)) (hu : ∀ w ∈ u_ws C T N, w ∈ wsL_law) (hty : ∀ k, k < N → parseFieldDescriptor (T k).2.2.1 = some (ty0 k)) (hnm : ∀ a, a < N → ∀ b, b < N → a ≠ b → (T a).2.1 ≠ (T b).2.1) (hw : Cond.fieldLink M.1 i C (T j).2.1 (T j).2.2.1 ∈ wsL_law) (hT : (T j).1 = C) (hj : j < N) (hfin : (T j).2.2.2 = false) (ht0 : ty0 j = ty) (hn : narrow ty (.int x) = .int x) (hf : fits ty (.int x) = true) (ht : ts[j]? = some 0) (kk : z_Go Y M d mk (pc + 3) lv st (z_pt σ k j x) o) : z_Go Y M d mk pc lv (zI x :: zR k :: st) σ o := by
  intro r σ' ho p l e s m args below meth c D ad cy F H locs ls hP hS hl
  obtain ⟨hx, hb, hr, hml, hown, hts, hlk, hK, hij, hE⟩ := id F
  refine va_put (v := .int x) hx hb hts hu ty0 hty hnm hown hK hP (z_D hij) hS k (z_ws_get hY) hc j hj (hts _ hw) (fun x h => by rw [← hT]; exact h) hfin (ty := ty) (by rw [← ht0]; exact hty j hj) hn hf (by simp; exact (List.getElem?_eq_some_iff.mp ht).1) hd (fun H1 locs1 hP1 hD1 hS1 => ?_)
  rw [z_set_f hY ht] at hP1
  exact kk r σ' ho p l e s m args below meth c D ad cy F H1 locs1 ls hP1 hS1 hl
theorem z_putL {k ci j i N : Nat} {ts : List Nat} {C : String} {T : u_T} {x : Int64} {ty0 : Nat → FieldType} (hd : decode M.2.2.1 pc = .ok (.putfield i, 3)) (hY : Y[k]? = some (.inl (ci, ts))) (hc : vwCl[ci]? = some (C, T, N)) (hu : ∀ w ∈ u_ws C T N, w ∈ wsL_law) (hty : ∀ k, k < N → parseFieldDescriptor (T k).2.2.1 = some (ty0 k)) (hnm : ∀ a, a < N → ∀ b, b < N → a ≠ b → (T a).2.1 ≠ (T b).2.1) (hw : Cond.fieldLink M.1 i C (T j).2.1 (T j).2.2.1 ∈ wsL_law) (hT : (T j).1 = C) (hj : j < N) (hfin : (T j).2.2.2 = false) (ht0 : ty0 j = .long) (ht : ts[j]? = some 1) (kk : z_Go Y M d mk (pc + 3) lv st (z_pl σ k j x) o) : z_Go Y M d mk pc lv (zL x :: zR k :: st) σ o := by
  intro r σ' ho p l e s m args below meth c D ad cy F H locs ls hP hS hl
  obtain ⟨hx, hb, hr, hml, hown, hts, hlk, hK, hij, hE⟩ := id F
  refine va_put (v := .long x) hx hb hts hu ty0 hty hnm hown hK hP (z_D hij) hS k (z_ws_get hY) hc j hj (hts _ hw) (fun x h => by rw [← hT]; exact h) hfin (ty := .long) (by rw [← ht0]; exact hty j hj) rfl rfl (by simp; exact (List.getElem?_eq_some_iff.mp ht).1) hd (fun H1 locs1 hP1 hD1 hS1 => ?_)
  rw [z_set_l hY ht] at hP1
  exact kk r σ' ho p l e s m args below meth c D ad cy F H1 locs1 ls hP1 hS1 hl
/-! rows -/
theorem z_iald {k n b w : Nat} {i : Int32} {ib : Decidable (z_in i n)} (hd : decode M.2.2.1 pc = .ok (.iaload, 1)) (hY : Y[k]? = some (.inr (0, n, b, w))) (kk : z_Go Y M d mk (pc + 1) lv (zI (σ.1 k (z_x i)) :: st) σ o) : z_Go Y M d mk pc lv (zI i :: zR k :: st) σ (z_gd (z_in i n) o) := by
  refine z_guard fun hg => ?_
  intro r σ' ho p l e s m args below meth c D ad cy F H locs ls hP hS hl
  obtain ⟨hx, hb, hr, hml, hown, hts, hlk, hK, hij, hE⟩ := id F
  exact va_iald hx hb hK hP k 0 (f := σ.1 k) (z_ws_get hY) rfl (z_in_vp hg) hd (kk r σ' ho p l e s m args below meth c D ad cy F H locs ls hP hS hl)
theorem z_zald {k n b w : Nat} {i : Int32} {ib : Decidable (z_in i n)} (hd : decode M.2.2.1 pc = .ok (.baload, 1)) (hY : Y[k]? = some (.inr (1, n, b, w))) (kk : z_Go Y M d mk (pc + 1) lv (zI (σ.1 k (z_x i)) :: st) σ o) : z_Go Y M d mk pc lv (zI i :: zR k :: st) σ (z_gd (z_in i n) o) := by
  refine z_guard fun hg => ?_
  intro r σ' ho p l e s m args below meth c D ad cy F H locs ls hP hS hl
  obtain ⟨hx, hb, hr, hml, hown, hts, hlk, hK, hij, hE⟩ := id F
  exact va_zald hx hb hK hP k 1 (f := σ.1 k) (z_ws_get hY) rfl (z_in_vp hg) hd (kk r σ' ho p l e s m args below meth c D ad cy F H locs ls hP hS hl)
theorem z_iast {k n b w : Nat} {i x : Int32} {ib : Decidable (z_in i n)} (hd : decode M.2.2.1 pc = .ok (.iastore, 1)) (hY : Y[k]? = some (.inr (0, n, b, w))) (kk : z_Go Y M d mk (pc + 1) lv st (z_pt σ k (z_x i) x) o) : z_Go Y M d mk pc lv (zI x :: zI i :: zR k :: st) σ (z_gd (z_in i n) o) := by
  refine z_guard fun hg => ?_
  intro r σ' ho p l e s m args below meth c D ad cy F H locs ls hP hS hl
  obtain ⟨hx, hb, hr, hml, hown, hts, hlk, hK, hij, hE⟩ := id F
  refine va_iast hx hb hK hP (z_D hij) hS k 0 (f := σ.1 k) (z_ws_get hY) rfl (z_in_vp hg) hd (fun H1 locs1 hP1 hD1 hS1 => ?_)
  rw [z_set_i hY] at hP1
  exact kk r σ' ho p l e s m args below meth c D ad cy F H1 locs1 ls hP1 hS1 hl
theorem z_zast {k n b w : Nat} {i x : Int32} {ib : Decidable (z_in i n)} (hd : decode M.2.2.1 pc = .ok (.bastore, 1)) (hY : Y[k]? = some (.inr (1, n, b, w))) (hv : vp_nar .boolean x = x) (kk : z_Go Y M d mk (pc + 1) lv st (z_pt σ k (z_x i) x) o) : z_Go Y M d mk pc lv (zI x :: zI i :: zR k :: st) σ (z_gd (z_in i n) o) := by
  refine z_guard fun hg => ?_
  intro r σ' ho p l e s m args below meth c D ad cy F H locs ls hP hS hl
  obtain ⟨hx, hb, hr, hml, hown, hts, hlk, hK, hij, hE⟩ := id F
  refine va_zast hx hb hK hP (z_D hij) hS k 1 (f := σ.1 k) (z_ws_get hY) rfl (z_in_vp hg) hd (fun H1 locs1 hP1 hD1 hS1 => ?_)
  rw [hv, z_set_z hY] at hP1
  exact kk r σ' ho p l e s m args below meth c D ad cy F H1 locs1 ls hP1 hS1 hl
theorem z_aald {k n b w q : Nat} {i : Int32} {ib : Decidable (z_in i n)} (hd : decode M.2.2.1 pc = .ok (.aaload, 1)) (hY : Y[k]? = some (.inr (q + 2, n, b, w))) (kk : z_in i n → z_Go Y M d mk (pc + 1) lv (zR (b + w * z_x i) :: st) σ o) : z_Go Y M d mk pc lv (zI i :: zR k :: st) σ (z_gd (z_in i n) o) := by
  refine z_guard fun hg => ?_
  intro r σ' ho p l e s m args below meth c D ad cy F H locs ls hP hS hl
  obtain ⟨hx, hb, hr, hml, hown, hts, hlk, hK, hij, hE⟩ := id F
  exact va_aldq (C := RX3) hx hb hK hP k 2 (f := fun i => some (ad (b + w * i))) (z_ws_get hY) rfl (z_in_vp hg) hd (kk hg r σ' ho p l e s m args below meth c D ad cy F H locs ls hP hS hl)
theorem z_alen {k n b w : Nat} {v : Int32} (hd : decode M.2.2.1 pc = .ok (.arraylength, 1)) (hY : Y[k]? = some (.inr (0, n, b, w))) (hv : Int32.ofNat n = v) (kk : z_Go Y M d mk (pc + 1) lv (zI v :: st) σ o) : z_Go Y M d mk pc lv (zR k :: st) σ o := by
  intro r σ' ho p l e s m args below meth c D ad cy F H locs ls hP hS hl
  obtain ⟨hx, hb, hr, hml, hown, hts, hlk, hK, hij, hE⟩ := id F
  exact va_alen hx hb hK hP k 0 (x := (n, .inl (σ.1 k))) (z_ws_get hY) (ty := .int) rfl hv hd (kk r σ' ho p l e s m args below meth c D ad cy F H locs ls hP hS hl)
/-! the row of KINDS above; String constants -/
theorem z_gstat {i : Nat} (hM : M.1 = RX5) (hd : decode M.2.2.1 pc = .ok (.getstatic i, 3)) (hw : Cond.fieldLink M.1 i RX5 "KIND_ABOVE" "[I" ∈ wsL_law) (kk : z_Go Y M d mk (pc + 3) lv (zR 2000 :: st) σ o) : z_Go Y M d mk pc lv st σ o := by
  intro r σ' ho p l e s m args below meth c D ad cy F H locs ls hP hS hl
  obtain ⟨hx, hb, hr, hml, hown, hts, hlk, hK, hij, hE⟩ := id F
  exact va_gets hx hb hE.2.2.1 hS hown (hts _ hw) (fun x h => h) hd (kk r σ' ho p l e s m args below meth c D ad cy F H locs ls hP hS hl)
theorem z_kald {i : Int32} {ib : Decidable (z_in i 6)} (hd : decode M.2.2.1 pc = .ok (.iaload, 1)) (kk : z_Go Y M d mk (pc + 1) lv (zI (z_ka (z_x i)) :: st) σ o) : z_Go Y M d mk pc lv (zI i :: zR 2000 :: st) σ (z_gd (z_in i 6) o) := by
  refine z_guard fun hg => ?_
  intro r σ' ho p l e s m args below meth c D ad cy F H locs ls hP hS hl
  obtain ⟨hx, hb, hr, hml, hown, hts, hlk, hK, hij, hE⟩ := id F
  exact va_ti hx hb hE.2.2.2.1 hS (z_in_vp hg) rfl hd (kk r σ' ho p l e s m args below meth c D ad cy F H locs ls hP hS hl)
theorem z_ldcS {i j : Nat} (hd : decode M.2.2.1 pc = .ok (.ldc j, 2)) (hi : i < 13) (h1 : (z_sIdx i).1 = M.1) (h2 : (z_sIdx i).2.1 = j) (kk : z_Go Y M d mk (pc + 2) lv (zR (1000 + i) :: st) σ o) : z_Go Y M d mk pc lv st σ o := by
  intro r σ' ho p l e s m args below meth c D ad cy F H locs ls hP hS hl
  obtain ⟨hx, hb, hr, hml, hown, hts, hlk, hK, hij, hE⟩ := id F
  have hZ := hE.2.2.2.2.1 i hi
  rw [h1, h2] at hZ
  exact va_ldcS hx hb hown hZ hd (kk r σ' ho p l e s m args below meth c D ad cy F H locs ls hP hS hl)
/-! Math, System.arraycopy -/
def z_mn (x y : Int32) : Int32 := if y < x then y else x
def z_mx (x y : Int32) : Int32 := if x < y then y else x
theorem z_min {i d0 : Nat} {x y : Int32} (hD : d = d0 + 1) (hd : decode M.2.2.1 pc = .ok (.invokestatic i, 3)) (hw : Cond.methodLink M.1 i Lib.Math.min.name ∈ wsL_law) (w1 : Cond.static Lib.Math.min.name ∈ wsL_law) (w2 : Cond.initialized "java/lang/Math" ∈ wsL_law) (w3 : Cond.code Lib.Math.min.name Lib.Math.min.code 2 (some .int) ∈ wsL_law) (hr0 : ∀ ad, ((st.map (z_v ad)).map fun v => v.category).sum ≤ 19) (kk : z_Go Y M d mk (pc + 3) lv (zI (z_mn x y) :: st) σ o) : z_Go Y M d mk pc lv (zI y :: zI x :: st) σ o := by
  intro r σ' ho p l e s m args below meth c D ad cy F H locs ls hP hS hl
  obtain ⟨hx, hb, hr, hml, hown, hts, hlk, hK, hij, hE⟩ := id F
  subst hD
  exact va_mmin hx hb (hml.trans hl.1.symm) hown (hts _ hw) (hts _ w1) (hts _ w2) (hts _ w3) (by show 1 ≤ d0 + 1; omega) (by have := hr0 ad; show _ + 13 ≤ 32 * (d0 + 1); omega) (Nat.le_refl _) (Nat.le_refl _) hd (kk r σ' ho p l e s m args below meth c D ad cy F H locs ls hP hS hl)
theorem z_max {i d0 : Nat} {x y : Int32} (hD : d = d0 + 1) (hd : decode M.2.2.1 pc = .ok (.invokestatic i, 3)) (hw : Cond.methodLink M.1 i Lib.Math.max.name ∈ wsL_law) (w1 : Cond.static Lib.Math.max.name ∈ wsL_law) (w2 : Cond.initialized "java/lang/Math" ∈ wsL_law) (w3 : Cond.code Lib.Math.max.name Lib.Math.max.code 2 (some .int) ∈ wsL_law) (hr0 : ∀ ad, ((st.map (z_v ad)).map fun v => v.category).sum ≤ 19) (kk : z_Go Y M d mk (pc + 3) lv (zI (z_mx x y) :: st) σ o) : z_Go Y M d mk pc lv (zI y :: zI x :: st) σ o := by
  intro r σ' ho p l e s m args below meth c D ad cy F H locs ls hP hS hl
  obtain ⟨hx, hb, hr, hml, hown, hts, hlk, hK, hij, hE⟩ := id F
  subst hD
  exact va_mmax hx hb (hml.trans hl.1.symm) hown (hts _ hw) (hts _ w1) (hts _ w2) (hts _ w3) (by show 1 ≤ d0 + 1; omega) (by have := hr0 ad; show _ + 13 ≤ 32 * (d0 + 1); omega) (Nat.le_refl _) (Nat.le_refl _) hd (kk r σ' ho p l e s m args below meth c D ad cy F H locs ls hP hS hl)
def z_cpOk (sp dp n : Int32) (n0 n1 : Nat) : Prop := ¬ sp < 0 ∧ ¬ dp < 0 ∧ ¬ n < 0 ∧ z_x sp + z_x n ≤ n0 ∧ z_x dp + z_x n ≤ n1
theorem z_copy {i d0 k0 k1 n0 n1 b0 b1 w0 w1 : Nat} {sp dp n : Int32} {ib : Decidable (z_cpOk sp dp n n0 n1)} (hD : d = d0 + 1) (hd : decode M.2.2.1 pc = .ok (.invokestatic i, 3)) (hw : Cond.methodLink M.1 i arraycopyName ∈ wsL_law) (g1 : Cond.native arraycopyName ∈ wsL_law) (g2 : Cond.static arraycopyName ∈ wsL_law) (g3 : Cond.initialized "java/lang/System" ∈ wsL_law) (hY0 : Y[k0]? = some (.inr (0, n0, b0, w0))) (hY1 : Y[k1]? = some (.inr (0, n1, b1, w1))) (kk : z_Go Y M d mk (pc + 3) lv [] (z_cp σ k1 (va_cpy (σ.1 k0) (σ.1 k1) (z_x sp) (z_x dp) (z_x n))) o) : z_Go Y M d mk pc lv [zI n, zI dp, zR k1, zI sp, zR k0] σ (z_gd (z_cpOk sp dp n n0 n1) o) := by
  refine z_guard fun hg => ?_
  intro r σ' ho p l e s m args below meth c D ad cy F H locs ls hP hS hl
  obtain ⟨hx, hb, hr, hml, hown, hts, hlk, hK, hij, hE⟩ := id F
  subst hD
  obtain ⟨h1, h2, h3, h4, h5⟩ := hg
  refine va_copyi hx hb (hml.trans hl.1.symm) hown (hts _ hw) (hts _ g1) (hts _ g2) (hts _ g3) hK hP (z_D hij) hS k0 k1 0 0 (f := σ.1 k0) (g := σ.1 k1) (z_ws_get hY0) (z_ws_get hY1) rfl rfl rfl h1 h2 h3 h4 h5 (fun _ _ => rfl) (by show 1 ≤ d0 + 1; omega) (by show 0 + (nativeFrameWords "java/lang/System" "arraycopy" 5 + 11) ≤ 32 * (d0 + 1); exact Nat.le_trans (show _ ≤ 32 by decide +kernel) (by omega)) hd (fun H1 locs1 hP1 hD1 hS1 => ?_)
  rw [z_set_i hY1] at hP1
  exact kk r σ' ho p l e s m args below meth c D ad cy F H1 locs1 ls hP1 hS1 hl
end ZR
/-! ends -/
theorem z_iret {Y : z_Lay} {M : z_M} {d pc : Nat} {lv : List (Option z_V)} {σ : z_Mem} {x : Int32} {ty : FieldType} (hd : decode M.2.2.1 pc = .ok (.ireturn, 1)) (hr0 : M.2.2.2.2 = some ty) (hn : narrow ty (.int x) = .int x) : z_Go Y M d z_i pc lv [zI x] σ (some (x, σ)) := by
  intro r σ' ho p l e s m args below meth c D ad cy F H locs ls hP hS hl
  cases ho
  obtain ⟨hx, hb, hr, hml, hown, hts, hlk, hK, hij, hE⟩ := id F
  exact W.zret hx hb (hr.trans hr0) hn (fun t ht hW => ⟨rfl, by rw [ht]; exact hP, hS.F ht⟩) hS.2.2 hd hlk
theorem z_lret {Y : z_Lay} {M : z_M} {d pc : Nat} {lv : List (Option z_V)} {σ : z_Mem} {x : Int64} (hd : decode M.2.2.1 pc = .ok (.lreturn, 1)) (hr0 : M.2.2.2.2 = some .long) : z_Go Y M d z_l pc lv [zL x] σ (some (x, σ)) := by
  intro r σ' ho p l e s m args below meth c D ad cy F H locs ls hP hS hl
  cases ho
  obtain ⟨hx, hb, hr, hml, hown, hts, hlk, hK, hij, hE⟩ := id F
  exact W.lret hx hb (hr.trans hr0) (fun t ht hW => ⟨rfl, by rw [ht]; exact hP, hS.F ht⟩) hS.2.2 hd hlk
theorem z_vret {Y : z_Lay} {M : z_M} {d pc : Nat} {lv : List (Option z_V)} {σ : z_Mem} (hd : decode M.2.2.1 pc = .ok (.return_, 1)) (hr0 : M.2.2.2.2 = none) : z_Go Y M d z_u pc lv [] σ (some ((), σ)) := by
  intro r σ' ho p l e s m args below meth c D ad cy F H locs ls hP hS hl
  cases ho
  obtain ⟨hx, hb, hr, hml, hown, hts, hlk, hK, hij, hE⟩ := id F
  exact W.vret hx hb (hr.trans hr0) (fun t ht hW => ⟨rfl, by rw [ht]; exact hP, hS.F ht⟩) hS.2.2 hd hlk
theorem z_aret {Y : z_Lay} {M : z_M} {d pc k : Nat} {lv : List (Option z_V)} {σ : z_Mem} {ty : FieldType} (hd : decode M.2.2.1 pc = .ok (.areturn, 1)) (hr0 : M.2.2.2.2 = some ty) (hn : ∃ n, ty = .object n) : z_Go Y M d z_r pc lv [zR k] σ (some (k, σ)) := by
  intro r σ' ho p l e s m args below meth c D ad cy F H locs ls hP hS hl
  cases ho
  obtain ⟨hx, hb, hr, hml, hown, hts, hlk, hK, hij, hE⟩ := id F
  exact W.aret (v := .ref (ad k)) hx hb (hr.trans hr0) (Or.inl hn) (Or.inr ⟨_, rfl⟩) (fun t ht hW => ⟨rfl, by rw [ht]; exact hP, hS.F ht⟩) hS.2.2 hd hlk
end
section
/-! calls -/
def z_catS (st : List z_V) : Nat := (st.map (fun v => match v with
  | .inr (.inl _) => 2
  | _ => 1)).sum
theorem z_catS_eq {ad : Nat → Nat} : ∀ (st : List z_V), ((st.map (z_v ad)).map fun v => v.category).sum = z_catS st
  | [] => rfl
  | .inl x :: r => by
    have h := z_catS_eq (ad := ad) r
    show 1 + ((r.map (z_v ad)).map fun v => v.category).sum = 1 + z_catS r
    rw [h]
  | .inr (.inl x) :: r => by
    have h := z_catS_eq (ad := ad) r
    show 2 + ((r.map (z_v ad)).map fun v => v.category).sum = 2 + z_catS r
    rw [h]
  | .inr (.inr x) :: r => by
    have h := z_catS_eq (ad := ad) r
    show 1 + ((r.map (z_v ad)).map fun v => v.category).sum = 1 + z_catS r
    rw [h]
section ZC
variable {p : Program} {l : Launch} {e : Env} {R : Room} {s : State} {m : MethodId} {args : Array Value} {below : List Frame} {meth : Method} {c : Code} {H : Heap} {locs : List Loc} {Q : State → Prop}
/-- behind a call over the world -/
theorem z_cont {Y : z_Lay} {D : va_G} {ad : Nat → Nat} {cy : z_Cy} {r : Option Value} {σ' : z_Mem} {a : Array Value} {pc : Nat} {ls : Array Slot} {st0 rest : List Value} (hr : va_Run p l e R s m args below meth c H locs 0 0 0 0 (F0 m pc ls st0) rest (z_Q Y D ad cy r σ' a) (z_A ad Y.length)) (hS : va_S (z_A ad Y.length) s.heap H locs)
    (kk : ∀ (H1 : Heap) (locs1 : List Loc), va_P D vwCl (z_ws Y ad cy σ') H1 → va_S (z_A ad Y.length) s.heap H1 locs1 → W p l e R s m args below meth c H1 locs1 0 0 Q (F0 m (pc + 3) ls (r.toList ++ rest))) : W p l e R s m args below meth c H locs 0 0 Q (F0 m pc ls st0) := by
  intro T hT X
  obtain ⟨v, st₀, t, T', L, h0, X', hL, e1, e2, ⟨hv, hP, hz, hk⟩, st⟩ := hr T hT X
  cases hv
  rw [h0] at hz hk
  obtain ⟨t2, a1, b1⟩ := kk T'.heap (locs ++ L) (by rw [e1]; exact hP)
    ⟨Nat.le_trans hS.1 (by rw [e1]; exact hz), fun q h1 h2 => by rw [e1, hk q (Nat.lt_of_lt_of_le h1 hS.1) h2]; exact hS.2.1 q h1 h2, fun q hq => by
      rcases List.mem_append.mp hq with h | h
      · exact hS.2.2 q h
      · exact hL q h⟩ T' rfl X'
  exact ⟨t2, st t2 a1, b1⟩
end ZC
/-- the callee's words among all -/
def z_lk (own : String) (i : Nat) (M' : z_M) : Prop := Cond.methodLink own i M'.2.1 ∈ wsL_law ∧ Cond.initialized M'.2.1.cls ∈ wsL_law ∧ Cond.code M'.2.1 M'.2.2.1 M'.2.2.2.1 M'.2.2.2.2 ∈ wsL_law
theorem z_good {M' : z_M} (h : Cond.code M'.2.1 M'.2.2.1 M'.2.2.2.1 M'.2.2.2.2 ∈ wsL_law) : GoodIn wsL_law (z_wl M') := by
  intro w hw
  have hm : w ∈ wsL_law := by
    rcases List.mem_cons.mp hw with rfl | h1
    · exact h
    · exact h1
  exact ⟨hm, good_of_word (List.all_eq_true.mp wsL_law_good w hm)⟩
theorem z_blind {Y : z_Lay} {D : va_G} {ad : Nat → Nat} {cy : z_Cy} {av : List z_V} {σ : z_Mem} : FrameBlind (z_Pc Y D ad cy av σ) := by
  intro a U g mk h
  obtain ⟨h0, h1, h2, h3⟩ := h
  exact ⟨h0, h1, va_K.moved (u := U) (U := U.calling g mk a) (Vm.Alike.refl U.vm) h2, z_Env.same (u := U) rfl h3⟩
section ZK
variable {α β : Type} {Y : z_Lay} {M M' : z_M} {d : Nat} {mk : α → Option z_V} {mk' : β → Option z_V} {pc i : Nat} {lv : List (Option z_V)} {st : List z_V} {σ : z_Mem} {o1 : Option (β × z_Mem)} {k : β → z_Mem → Option (α × z_Mem)}
theorem z_okPre {s U : State} {H : Heap} {locs : List Loc} {D : va_G} {ad : Nat → Nat} {cy : z_Cy} {av : List z_V} (hP : va_P D vwCl (z_ws Y ad cy σ) H) (hS : va_S (z_A ad Y.length) s.heap H locs) (hK : va_K D vwCl (z_tys cy) s) (hE : z_Env ad (z_A ad Y.length) s s.heap) (hU : U.heap = H) (hW : s.WarmedH U.vm) : z_Pc Y D ad cy av σ (av.map (z_v ad)).toArray U := by
  refine ⟨rfl, by rw [hU]; exact hP, va_K.moved hW.alike hK, ?_⟩
  rw [hU]
  exact (hE.warm hW).kept (fun a h1 h2 => hS.2.1 a h1 h2)
theorem z_invV {kc ci N n : Nat} {ts : List Nat} {T : u_T} {av : List z_V} {sk : List z_V} (hd : decode M.2.2.1 pc = .ok (.invokevirtual i, 3)) (hsk : sk = av.reverse ++ zR kc :: st) (hk : z_lk M.1 i M') (hi : Cond.instanceMethod M'.2.1 ∈ wsL_law) (hs : Cond.selects M'.2.1.cls M'.2.1 M'.2.1 ∈ wsL_law) (hY : Y[kc]? = some (.inl (ci, ts))) (hc : vwCl[ci]? = some (M'.2.1.cls, T, N)) (hq : M'.2.1.cls ≠ "java/lang/invoke/MethodHandle" ∧ M'.2.1.cls ≠ "java/lang/invoke/VarHandle" ∧ (parseMethodDescriptor M'.2.1.desc).map (fun d => d.parameters.length) = some n) (hn : av.length = n) (hm : M'.2.2.2.1 ≤ 13) (hcs : z_catS st ≤ 8)
    (hcall : z_Call Y M' d mk' (zR kc :: av) σ o1) (kk : ∀ r σ1, z_Go Y M (d + 1) mk (pc + 3) lv ((mk' r).toList ++ st) σ1 (k r σ1)) : z_Go Y M (d + 1) mk pc lv sk σ (z_bd o1 k) := by
  intro r σ' ho p l e s m args below meth c D ad cy F H locs ls hP hS hl
  obtain ⟨hx, hb, hr, hml, hown, hts, hlk, hK, hij, hE⟩ := id F
  subst hsk
  cases ho1 : o1 with
  | none => rw [ho1] at ho; simp [z_bd] at ho
  | some q =>
    obtain ⟨r1, σ1⟩ := q
    rw [ho1] at ho
    have ho : k r1 σ1 = some (r, σ') := ho
    have hM := hcall r1 σ1 ho1 l D ad cy hij
    have cb : CallB (z_rm (d + 1)) s args M.1 i M'.2.1 M'.2.2.1 M'.2.2.2.1 M'.2.2.2.2 (z_wl M') (z_rm d) 0 0 n := callB_of n hts (z_good hk.2.2) rfl rfl rfl (hts _ hk.2.1) (hts _ hk.1) hq ⟨Nat.le_refl _, by show 8 + (M'.2.2.2.1 + 11) + 32 * d ≤ 32 * (d + 1); omega⟩
    have hrun := va_runV (H := H) (locs := locs) (cells := 0) (slots := 0) (below := below) (meth := meth) (g := F0 m pc ls ((av.reverse ++ zR kc :: st).map (z_v ad))) (As := av.map (z_v ad)) (b := ad kc) (rest := st.map (z_v ad)) (R := z_rm (d + 1)) (p := p) (e := e) (C := M'.2.1.cls) ⟨hx, hb, hml, hown, hts⟩ hM ⟨cb, hts _ hi, hts _ hs⟩ ⟨z_blind, va_recv hK hP hc (z_ws_get hY), fun U hU hW => z_okPre hP hS hK hE hU hW⟩ rfl (by rw [List.length_map]; exact hn) hl.1 (by simp [z_v]) (by show 2 * 0 + _ ≤ 8; rw [z_catS_eq]; omega) hd ⟨Nat.le_refl _, Nat.le_refl _⟩
    refine z_cont hrun hS (fun H1 locs1 hP1 hS1 => ?_)
    have := kk r1 σ1 r σ' ho p l e s m args below meth c D ad cy F H1 locs1 ls hP1 hS1 hl
    rw [List.map_append] at this
    cases hmk : mk' r1 <;> simpa [hmk] using this
theorem z_invS {n : Nat} {av : List z_V} {sk : List z_V} (hd : decode M.2.2.1 pc = .ok (.invokestatic i, 3)) (hsk : sk = av.reverse ++ st) (hk : z_lk M.1 i M') (hi : Cond.static M'.2.1 ∈ wsL_law) (hq : M'.2.1.cls ≠ "java/lang/invoke/MethodHandle" ∧ M'.2.1.cls ≠ "java/lang/invoke/VarHandle" ∧ (parseMethodDescriptor M'.2.1.desc).map (fun d => d.parameters.length) = some n) (hn : av.length = n) (hm : M'.2.2.2.1 ≤ 13) (hcs : z_catS st ≤ 8)
    (hcall : z_Call Y M' d mk' av σ o1) (kk : ∀ r σ1, z_Go Y M (d + 1) mk (pc + 3) lv ((mk' r).toList ++ st) σ1 (k r σ1)) : z_Go Y M (d + 1) mk pc lv sk σ (z_bd o1 k) := by
  intro r σ' ho p l e s m args below meth c D ad cy F H locs ls hP hS hl
  obtain ⟨hx, hb, hr, hml, hown, hts, hlk, hK, hij, hE⟩ := id F
  subst hsk
  cases ho1 : o1 with
  | none => rw [ho1] at ho; simp [z_bd] at ho
  | some q =>
    obtain ⟨r1, σ1⟩ := q
    rw [ho1] at ho
    have ho : k r1 σ1 = some (r, σ') := ho
    have hM := hcall r1 σ1 ho1 l D ad cy hij
    have cb : CallB (z_rm (d + 1)) s args M.1 i M'.2.1 M'.2.2.1 M'.2.2.2.1 M'.2.2.2.2 (z_wl M') (z_rm d) 0 0 n := callB_of n hts (z_good hk.2.2) rfl rfl rfl (hts _ hk.2.1) (hts _ hk.1) hq ⟨Nat.le_refl _, by show 8 + (M'.2.2.2.1 + 11) + 32 * d ≤ 32 * (d + 1); omega⟩
    have hrun := va_runS (H := H) (locs := locs) (cells := 0) (slots := 0) (below := below) (meth := meth) (g := F0 m pc ls ((av.reverse ++ st).map (z_v ad))) (As := av.map (z_v ad)) (rest := st.map (z_v ad)) (R := z_rm (d + 1)) (p := p) (e := e) ⟨hx, hb, hml, hown, hts⟩ hM ⟨cb, hts _ hi⟩ ⟨z_blind, fun U hU hW => z_okPre hP hS hK hE hU hW⟩ rfl (by rw [List.length_map]; exact hn) hl.1 (by simp) (by show 2 * 0 + _ ≤ 8; rw [z_catS_eq]; omega) hd ⟨Nat.le_refl _, Nat.le_refl _⟩
    refine z_cont hrun hS (fun H1 locs1 hP1 hS1 => ?_)
    have := kk r1 σ1 r σ' ho p l e s m args below meth c D ad cy F H1 locs1 ls hP1 hS1 hl
    rw [List.map_append] at this
    cases hmk : mk' r1 <;> simpa [hmk] using this
/-- a static method of a nest mate: bounded, isUnder, called by Marsh -/
theorem z_invN {n : Nat} {av : List z_V} {sk : List z_V} (hd : decode M.2.2.1 pc = .ok (.invokestatic i, 3)) (hsk : sk = av.reverse ++ st) (hE0 : ∀ ad A U H, z_Env ad A U H → va_Nw (.methodLinkNest M.1 i M'.2.1 RX5) U) (hk1 : Cond.initialized M'.2.1.cls ∈ wsL_law) (hk2 : Cond.code M'.2.1 M'.2.2.1 M'.2.2.2.1 M'.2.2.2.2 ∈ wsL_law) (hi : Cond.static M'.2.1 ∈ wsL_law) (hq : M'.2.1.cls ≠ "java/lang/invoke/MethodHandle" ∧ M'.2.1.cls ≠ "java/lang/invoke/VarHandle" ∧ (parseMethodDescriptor M'.2.1.desc).map (fun d => d.parameters.length) = some n) (hn : av.length = n) (hm : M'.2.2.2.1 ≤ 13) (hcs : z_catS st ≤ 8)
    (hcall : z_Call Y M' d mk' av σ o1) (kk : ∀ r σ1, z_Go Y M (d + 1) mk (pc + 3) lv ((mk' r).toList ++ st) σ1 (k r σ1)) : z_Go Y M (d + 1) mk pc lv sk σ (z_bd o1 k) := by
  intro r σ' ho p l e s m args below meth c D ad cy F H locs ls hP hS hl
  obtain ⟨hx, hb, hr, hml, hown, hts, hlk, hK, hij, hE⟩ := id F
  subst hsk
  cases ho1 : o1 with
  | none => rw [ho1] at ho; simp [z_bd] at ho
  | some q =>
    obtain ⟨r1, σ1⟩ := q
    rw [ho1] at ho
    have ho : k r1 σ1 = some (r, σ') := ho
    have hM := hcall r1 σ1 ho1 l D ad cy hij
    have cb : va_CN (z_rm (d + 1)) s args M.1 i M'.2.1 RX5 M'.2.2.1 M'.2.2.2.1 M'.2.2.2.2 (z_wl M') (z_rm d) 0 0 n := va_cnB n hts (z_good hk2) rfl rfl rfl (hE0 _ _ _ _ hE) (hts _ hk1) hq ⟨Nat.le_refl _, by show 8 + (M'.2.2.2.1 + 11) + 32 * d ≤ 32 * (d + 1); omega⟩
    have hrun := va_runSN (H := H) (locs := locs) (cells := 0) (slots := 0) (below := below) (meth := meth) (g := F0 m pc ls ((av.reverse ++ st).map (z_v ad))) (As := av.map (z_v ad)) (rest := st.map (z_v ad)) (R := z_rm (d + 1)) (p := p) (e := e) ⟨hx, hb, hml, hown, hts⟩ hM ⟨cb, hts _ hi, trivial⟩ ⟨z_blind, fun U hU hW => z_okPre hP hS hK hE hU hW⟩ rfl (by rw [List.length_map]; exact hn) hl.1 (by simp) (by show 2 * 0 + _ ≤ 8; rw [z_catS_eq]; omega) hd ⟨Nat.le_refl _, Nat.le_refl _⟩
    refine z_cont hrun hS (fun H1 locs1 hP1 hS1 => ?_)
    have := kk r1 σ1 r σ' ho p l e s m args below meth c D ad cy F H1 locs1 ls hP1 hS1 hl
    rw [List.map_append] at this
    cases hmk : mk' r1 <;> simpa [hmk] using this
/-- a call of a String constant's method -/
theorem z_invT {n j : Nat} {av : List z_V} {sk : List z_V} (hd : decode M.2.2.1 pc = .ok (.invokevirtual i, 3)) (hsk : sk = av.reverse ++ zR (1000 + j) :: st) (hj : j < 13) (hk : z_lk M.1 i M') (hC : M'.2.1.cls = "java/lang/String") (hi : Cond.instanceMethod M'.2.1 ∈ wsL_law) (hs : Cond.selects M'.2.1.cls M'.2.1 M'.2.1 ∈ wsL_law) (hq : M'.2.1.cls ≠ "java/lang/invoke/MethodHandle" ∧ M'.2.1.cls ≠ "java/lang/invoke/VarHandle" ∧ (parseMethodDescriptor M'.2.1.desc).map (fun d => d.parameters.length) = some n) (hn : av.length = n) (hm : M'.2.2.2.1 ≤ 13) (hcs : z_catS st ≤ 8)
    (hcall : z_Call Y M' d mk' (zR (1000 + j) :: av) σ o1) (kk : ∀ r σ1, z_Go Y M (d + 1) mk (pc + 3) lv ((mk' r).toList ++ st) σ1 (k r σ1)) : z_Go Y M (d + 1) mk pc lv sk σ (z_bd o1 k) := by
  intro r σ' ho p l e s m args below meth c D ad cy F H locs ls hP hS hl
  obtain ⟨hx, hb, hr, hml, hown, hts, hlk, hK, hij, hE⟩ := id F
  subst hsk
  cases ho1 : o1 with
  | none => rw [ho1] at ho; simp [z_bd] at ho
  | some q =>
    obtain ⟨r1, σ1⟩ := q
    rw [ho1] at ho
    have ho : k r1 σ1 = some (r, σ') := ho
    have hM := hcall r1 σ1 ho1 l D ad cy hij
    have cb : CallB (z_rm (d + 1)) s args M.1 i M'.2.1 M'.2.2.1 M'.2.2.2.1 M'.2.2.2.2 (z_wl M') (z_rm d) 0 0 n := callB_of n hts (z_good hk.2.2) rfl rfl rfl (hts _ hk.2.1) (hts _ hk.1) hq ⟨Nat.le_refl _, by show 8 + (M'.2.2.2.1 + 11) + 32 * d ≤ 32 * (d + 1); omega⟩
    have hrec := vk_recv hE.2.2.2.2.2.1 hj hS
    have hrun := va_runV (H := H) (locs := locs) (cells := 0) (slots := 0) (below := below) (meth := meth) (g := F0 m pc ls ((av.reverse ++ zR (1000 + j) :: st).map (z_v ad))) (As := av.map (z_v ad)) (b := ad (1000 + j)) (rest := st.map (z_v ad)) (R := z_rm (d + 1)) (p := p) (e := e) (C := M'.2.1.cls) ⟨hx, hb, hml, hown, hts⟩ hM ⟨cb, hts _ hi, hts _ hs⟩ ⟨z_blind, by rw [hC]; exact hrec, fun U hU hW => z_okPre hP hS hK hE hU hW⟩ rfl (by rw [List.length_map]; exact hn) hl.1 (by simp [z_v]) (by show 2 * 0 + _ ≤ 8; rw [z_catS_eq]; omega) hd ⟨Nat.le_refl _, Nat.le_refl _⟩
    refine z_cont hrun hS (fun H1 locs1 hP1 hS1 => ?_)
    have := kk r1 σ1 r σ' ho p l e s m args below meth c D ad cy F H1 locs1 ls hP1 hS1 hl
    rw [List.map_append] at this
    cases hmk : mk' r1 <;> simpa [hmk] using this
end ZK
end
