section
-- ===== PART A: goes FIRST, ahead of the names: the tables' words, and 'selects' of the private methods out of them =====
/-- a private method of a class that the tables say can be made, by its rows of tables_1 -/
def lw_okq (q : MethodName × Nat) : Prop := (q.1.cls ≠ "java/lang/invoke/MethodHandle" ∧ q.1.cls ≠ "java/lang/invoke/VarHandle") ∧ Cond.instantiable q.1.cls q.2 ∈ tables_1 ∧ Cond.privateMethod q.1 ∈ tables_1 ∧ Cond.instanceMethod q.1 ∈ tables_1
theorem lw_p0 : lw_okq (⟨"BottomryLoans$Table", "cellOf", "(II)I"⟩, 4) := ⟨⟨by decide +kernel, by decide +kernel⟩, List.mem_of_getElem? (i := 21) (by decide +kernel), List.mem_of_getElem? (i := 257) (by decide +kernel), List.mem_of_getElem? (i := 258) (by decide +kernel)⟩
theorem lw_p1 : lw_okq (⟨"BottomryLoans$Reader", "skipBlanks", "()V"⟩, 5) := ⟨⟨by decide +kernel, by decide +kernel⟩, List.mem_of_getElem? (i := 44) (by decide +kernel), List.mem_of_getElem? (i := 281) (by decide +kernel), List.mem_of_getElem? (i := 282) (by decide +kernel)⟩
theorem lw_p2 : lw_okq (⟨"BottomryLoans$Reader", "letter", "()I"⟩, 5) := ⟨⟨by decide +kernel, by decide +kernel⟩, List.mem_of_getElem? (i := 44) (by decide +kernel), List.mem_of_getElem? (i := 285) (by decide +kernel), List.mem_of_getElem? (i := 286) (by decide +kernel)⟩
theorem lw_p3 : lw_okq (⟨"BottomryLoans$Reader", "readClause", "()V"⟩, 5) := ⟨⟨by decide +kernel, by decide +kernel⟩, List.mem_of_getElem? (i := 44) (by decide +kernel), List.mem_of_getElem? (i := 294) (by decide +kernel), List.mem_of_getElem? (i := 295) (by decide +kernel)⟩
theorem lw_p4 : lw_okq (⟨"BottomryLoans$Reader", "refuse", "(II)V"⟩, 5) := ⟨⟨by decide +kernel, by decide +kernel⟩, List.mem_of_getElem? (i := 44) (by decide +kernel), List.mem_of_getElem? (i := 301) (by decide +kernel), List.mem_of_getElem? (i := 302) (by decide +kernel)⟩
theorem lw_p5 : lw_okq (⟨"BottomryLoans$Reader", "clausesOf", "(I)LBottomryLoans$Table;"⟩, 5) := ⟨⟨by decide +kernel, by decide +kernel⟩, List.mem_of_getElem? (i := 44) (by decide +kernel), List.mem_of_getElem? (i := 305) (by decide +kernel), List.mem_of_getElem? (i := 306) (by decide +kernel)⟩
theorem lw_p6 : lw_okq (⟨"BottomryLoans$Reader", "readNumber", "(I)I"⟩, 5) := ⟨⟨by decide +kernel, by decide +kernel⟩, List.mem_of_getElem? (i := 44) (by decide +kernel), List.mem_of_getElem? (i := 315) (by decide +kernel), List.mem_of_getElem? (i := 316) (by decide +kernel)⟩
theorem lw_p7 : lw_okq (⟨"BottomryLoans$Reader", "readEnd", "()V"⟩, 5) := ⟨⟨by decide +kernel, by decide +kernel⟩, List.mem_of_getElem? (i := 44) (by decide +kernel), List.mem_of_getElem? (i := 330) (by decide +kernel), List.mem_of_getElem? (i := 331) (by decide +kernel)⟩
theorem lw_p8 : lw_okq (⟨"BottomryLoans", "whereSheIs", "()I"⟩, 12) := ⟨⟨by decide +kernel, by decide +kernel⟩, List.mem_of_getElem? (i := 13) (by decide +kernel), List.mem_of_getElem? (i := 378) (by decide +kernel), List.mem_of_getElem? (i := 379) (by decide +kernel)⟩
theorem lw_p9 : lw_okq (⟨"BottomryLoans", "cannotTry", "()Z"⟩, 12) := ⟨⟨by decide +kernel, by decide +kernel⟩, List.mem_of_getElem? (i := 13) (by decide +kernel), List.mem_of_getElem? (i := 391) (by decide +kernel), List.mem_of_getElem? (i := 392) (by decide +kernel)⟩
theorem lw_p10 : lw_okq (⟨"BottomryLoans", "leftBesidesPurse", "()I"⟩, 12) := ⟨⟨by decide +kernel, by decide +kernel⟩, List.mem_of_getElem? (i := 13) (by decide +kernel), List.mem_of_getElem? (i := 395) (by decide +kernel), List.mem_of_getElem? (i := 396) (by decide +kernel)⟩
theorem lw_p11 : lw_okq (⟨"BottomryLoans", "shipMoney", "(I)I"⟩, 12) := ⟨⟨by decide +kernel, by decide +kernel⟩, List.mem_of_getElem? (i := 13) (by decide +kernel), List.mem_of_getElem? (i := 399) (by decide +kernel), List.mem_of_getElem? (i := 400) (by decide +kernel)⟩
theorem lw_p12 : lw_okq (⟨"BottomryLoans", "hasYet", "(I)I"⟩, 12) := ⟨⟨by decide +kernel, by decide +kernel⟩, List.mem_of_getElem? (i := 13) (by decide +kernel), List.mem_of_getElem? (i := 423) (by decide +kernel), List.mem_of_getElem? (i := 424) (by decide +kernel)⟩
theorem lw_p13 : lw_okq (⟨"BottomryLoans$She", "countFrom", "(II)I"⟩, 5) := ⟨⟨by decide +kernel, by decide +kernel⟩, List.mem_of_getElem? (i := 94) (by decide +kernel), List.mem_of_getElem? (i := 439) (by decide +kernel), List.mem_of_getElem? (i := 440) (by decide +kernel)⟩
theorem lw_p14 : lw_okq (⟨"BottomryLoans", "isInPort", "()Z"⟩, 12) := ⟨⟨by decide +kernel, by decide +kernel⟩, List.mem_of_getElem? (i := 13) (by decide +kernel), List.mem_of_getElem? (i := 447) (by decide +kernel), List.mem_of_getElem? (i := 448) (by decide +kernel)⟩
theorem lw_p15 : lw_okq (⟨"BottomryLoans", "remember", "()V"⟩, 12) := ⟨⟨by decide +kernel, by decide +kernel⟩, List.mem_of_getElem? (i := 13) (by decide +kernel), List.mem_of_getElem? (i := 452) (by decide +kernel), List.mem_of_getElem? (i := 453) (by decide +kernel)⟩
def lw_privs_1 : List (MethodName × Nat) := [(⟨"BottomryLoans$Table", "cellOf", "(II)I"⟩, 4), (⟨"BottomryLoans$Reader", "skipBlanks", "()V"⟩, 5), (⟨"BottomryLoans$Reader", "letter", "()I"⟩, 5), (⟨"BottomryLoans$Reader", "readClause", "()V"⟩, 5), (⟨"BottomryLoans$Reader", "refuse", "(II)V"⟩, 5), (⟨"BottomryLoans$Reader", "clausesOf", "(I)LBottomryLoans$Table;"⟩, 5), (⟨"BottomryLoans$Reader", "readNumber", "(I)I"⟩, 5), (⟨"BottomryLoans$Reader", "readEnd", "()V"⟩, 5), (⟨"BottomryLoans", "whereSheIs", "()I"⟩, 12), (⟨"BottomryLoans", "cannotTry", "()Z"⟩, 12), (⟨"BottomryLoans", "leftBesidesPurse", "()I"⟩, 12), (⟨"BottomryLoans", "shipMoney", "(I)I"⟩, 12), (⟨"BottomryLoans", "hasYet", "(I)I"⟩, 12), (⟨"BottomryLoans$She", "countFrom", "(II)I"⟩, 5), (⟨"BottomryLoans", "isInPort", "()Z"⟩, 12), (⟨"BottomryLoans", "remember", "()V"⟩, 12)]
theorem lw_r1 : ∀ q ∈ lw_privs_1, lw_okq q := List.forall_mem_cons.mpr ⟨lw_p0, List.forall_mem_cons.mpr ⟨lw_p1, List.forall_mem_cons.mpr ⟨lw_p2, List.forall_mem_cons.mpr ⟨lw_p3, List.forall_mem_cons.mpr ⟨lw_p4, List.forall_mem_cons.mpr ⟨lw_p5, List.forall_mem_cons.mpr ⟨lw_p6, List.forall_mem_cons.mpr ⟨lw_p7, List.forall_mem_cons.mpr ⟨lw_p8, List.forall_mem_cons.mpr ⟨lw_p9, List.forall_mem_cons.mpr ⟨lw_p10, List.forall_mem_cons.mpr ⟨lw_p11, List.forall_mem_cons.mpr ⟨lw_p12, List.forall_mem_cons.mpr ⟨lw_p13, List.forall_mem_cons.mpr ⟨lw_p14, List.forall_mem_cons.mpr ⟨lw_p15, fun _ h => absurd h List.not_mem_nil⟩⟩⟩⟩⟩⟩⟩⟩⟩⟩⟩⟩⟩⟩⟩⟩
theorem lw_p16 : lw_okq (⟨"BottomryLoans$Past", "slotOf", "(I)LBottomryLoans$She;"⟩, 3) := ⟨⟨by decide +kernel, by decide +kernel⟩, List.mem_of_getElem? (i := 126) (by decide +kernel), List.mem_of_getElem? (i := 460) (by decide +kernel), List.mem_of_getElem? (i := 461) (by decide +kernel)⟩
theorem lw_p17 : lw_okq (⟨"BottomryLoans", "costHere", "()I"⟩, 12) := ⟨⟨by decide +kernel, by decide +kernel⟩, List.mem_of_getElem? (i := 13) (by decide +kernel), List.mem_of_getElem? (i := 480) (by decide +kernel), List.mem_of_getElem? (i := 481) (by decide +kernel)⟩
theorem lw_p18 : lw_okq (⟨"BottomryLoans", "drawOfHundred", "()I"⟩, 12) := ⟨⟨by decide +kernel, by decide +kernel⟩, List.mem_of_getElem? (i := 13) (by decide +kernel), List.mem_of_getElem? (i := 497) (by decide +kernel), List.mem_of_getElem? (i := 498) (by decide +kernel)⟩
theorem lw_p19 : lw_okq (⟨"BottomryLoans", "paidNow", "(I)I"⟩, 12) := ⟨⟨by decide +kernel, by decide +kernel⟩, List.mem_of_getElem? (i := 13) (by decide +kernel), List.mem_of_getElem? (i := 545) (by decide +kernel), List.mem_of_getElem? (i := 546) (by decide +kernel)⟩
theorem lw_p20 : lw_okq (⟨"BottomryLoans$Planner", "tryFrom", "(IIII)V"⟩, 7) := ⟨⟨by decide +kernel, by decide +kernel⟩, List.mem_of_getElem? (i := 166) (by decide +kernel), List.mem_of_getElem? (i := 579) (by decide +kernel), List.mem_of_getElem? (i := 580) (by decide +kernel)⟩
theorem lw_p21 : lw_okq (⟨"BottomryLoans$Planner", "tryPoints", "(IIIII)V"⟩, 7) := ⟨⟨by decide +kernel, by decide +kernel⟩, List.mem_of_getElem? (i := 166) (by decide +kernel), List.mem_of_getElem? (i := 586) (by decide +kernel), List.mem_of_getElem? (i := 587) (by decide +kernel)⟩
theorem lw_p22 : lw_okq (⟨"BottomryLoans", "cheapestLender", "(I)I"⟩, 12) := ⟨⟨by decide +kernel, by decide +kernel⟩, List.mem_of_getElem? (i := 13) (by decide +kernel), List.mem_of_getElem? (i := 610) (by decide +kernel), List.mem_of_getElem? (i := 611) (by decide +kernel)⟩
theorem lw_p23 : lw_okq (⟨"BottomryLoans", "leastWorthFor", "(I)I"⟩, 12) := ⟨⟨by decide +kernel, by decide +kernel⟩, List.mem_of_getElem? (i := 13) (by decide +kernel), List.mem_of_getElem? (i := 622) (by decide +kernel), List.mem_of_getElem? (i := 623) (by decide +kernel)⟩
theorem lw_p24 : lw_okq (⟨"BottomryLoans", "canBeSo", "(I)Z"⟩, 12) := ⟨⟨by decide +kernel, by decide +kernel⟩, List.mem_of_getElem? (i := 13) (by decide +kernel), List.mem_of_getElem? (i := 626) (by decide +kernel), List.mem_of_getElem? (i := 627) (by decide +kernel)⟩
theorem lw_p25 : lw_okq (⟨"BottomryLoans", "isFreightTold", "(I)Z"⟩, 12) := ⟨⟨by decide +kernel, by decide +kernel⟩, List.mem_of_getElem? (i := 13) (by decide +kernel), List.mem_of_getElem? (i := 630) (by decide +kernel), List.mem_of_getElem? (i := 631) (by decide +kernel)⟩
theorem lw_p26 : lw_okq (⟨"BottomryLoans", "worthJustFor", "(I)I"⟩, 12) := ⟨⟨by decide +kernel, by decide +kernel⟩, List.mem_of_getElem? (i := 13) (by decide +kernel), List.mem_of_getElem? (i := 634) (by decide +kernel), List.mem_of_getElem? (i := 635) (by decide +kernel)⟩
theorem lw_p27 : lw_okq (⟨"BottomryLoans", "greatestWorthFor", "(I)I"⟩, 12) := ⟨⟨by decide +kernel, by decide +kernel⟩, List.mem_of_getElem? (i := 13) (by decide +kernel), List.mem_of_getElem? (i := 638) (by decide +kernel), List.mem_of_getElem? (i := 639) (by decide +kernel)⟩
theorem lw_p28 : lw_okq (⟨"BottomryLoans", "imageOf", "(I)LBottomryLoans$Image;"⟩, 12) := ⟨⟨by decide +kernel, by decide +kernel⟩, List.mem_of_getElem? (i := 13) (by decide +kernel), List.mem_of_getElem? (i := 663) (by decide +kernel), List.mem_of_getElem? (i := 664) (by decide +kernel)⟩
theorem lw_p29 : lw_okq (⟨"BottomryLoansModel", "here", "()I"⟩, 36) := ⟨⟨by decide +kernel, by decide +kernel⟩, List.mem_of_getElem? (i := 672) (by decide +kernel), List.mem_of_getElem? (i := 802) (by decide +kernel), List.mem_of_getElem? (i := 803) (by decide +kernel)⟩
theorem lw_p30 : lw_okq (⟨"BottomryLoansModel", "letterAt", "(I)I"⟩, 36) := ⟨⟨by decide +kernel, by decide +kernel⟩, List.mem_of_getElem? (i := 672) (by decide +kernel), List.mem_of_getElem? (i := 806) (by decide +kernel), List.mem_of_getElem? (i := 807) (by decide +kernel)⟩
theorem lw_p31 : lw_okq (⟨"BottomryLoansModel", "takesClause", "()Z"⟩, 36) := ⟨⟨by decide +kernel, by decide +kernel⟩, List.mem_of_getElem? (i := 672) (by decide +kernel), List.mem_of_getElem? (i := 810) (by decide +kernel), List.mem_of_getElem? (i := 811) (by decide +kernel)⟩
def lw_privs_2 : List (MethodName × Nat) := [(⟨"BottomryLoans$Past", "slotOf", "(I)LBottomryLoans$She;"⟩, 3), (⟨"BottomryLoans", "costHere", "()I"⟩, 12), (⟨"BottomryLoans", "drawOfHundred", "()I"⟩, 12), (⟨"BottomryLoans", "paidNow", "(I)I"⟩, 12), (⟨"BottomryLoans$Planner", "tryFrom", "(IIII)V"⟩, 7), (⟨"BottomryLoans$Planner", "tryPoints", "(IIIII)V"⟩, 7), (⟨"BottomryLoans", "cheapestLender", "(I)I"⟩, 12), (⟨"BottomryLoans", "leastWorthFor", "(I)I"⟩, 12), (⟨"BottomryLoans", "canBeSo", "(I)Z"⟩, 12), (⟨"BottomryLoans", "isFreightTold", "(I)Z"⟩, 12), (⟨"BottomryLoans", "worthJustFor", "(I)I"⟩, 12), (⟨"BottomryLoans", "greatestWorthFor", "(I)I"⟩, 12), (⟨"BottomryLoans", "imageOf", "(I)LBottomryLoans$Image;"⟩, 12), (⟨"BottomryLoansModel", "here", "()I"⟩, 36), (⟨"BottomryLoansModel", "letterAt", "(I)I"⟩, 36), (⟨"BottomryLoansModel", "takesClause", "()Z"⟩, 36)]
theorem lw_r2 : ∀ q ∈ lw_privs_2, lw_okq q := List.forall_mem_cons.mpr ⟨lw_p16, List.forall_mem_cons.mpr ⟨lw_p17, List.forall_mem_cons.mpr ⟨lw_p18, List.forall_mem_cons.mpr ⟨lw_p19, List.forall_mem_cons.mpr ⟨lw_p20, List.forall_mem_cons.mpr ⟨lw_p21, List.forall_mem_cons.mpr ⟨lw_p22, List.forall_mem_cons.mpr ⟨lw_p23, List.forall_mem_cons.mpr ⟨lw_p24, List.forall_mem_cons.mpr ⟨lw_p25, List.forall_mem_cons.mpr ⟨lw_p26, List.forall_mem_cons.mpr ⟨lw_p27, List.forall_mem_cons.mpr ⟨lw_p28, List.forall_mem_cons.mpr ⟨lw_p29, List.forall_mem_cons.mpr ⟨lw_p30, List.forall_mem_cons.mpr ⟨lw_p31, fun _ h => absurd h List.not_mem_nil⟩⟩⟩⟩⟩⟩⟩⟩⟩⟩⟩⟩⟩⟩⟩⟩
theorem lw_p32 : lw_okq (⟨"BottomryLoansModel", "fails", "(II)Z"⟩, 36) := ⟨⟨by decide +kernel, by decide +kernel⟩, List.mem_of_getElem? (i := 672) (by decide +kernel), List.mem_of_getElem? (i := 814) (by decide +kernel), List.mem_of_getElem? (i := 815) (by decide +kernel)⟩
theorem lw_p33 : lw_okq (⟨"BottomryLoansModel", "takesShip", "()Z"⟩, 36) := ⟨⟨by decide +kernel, by decide +kernel⟩, List.mem_of_getElem? (i := 672) (by decide +kernel), List.mem_of_getElem? (i := 818) (by decide +kernel), List.mem_of_getElem? (i := 819) (by decide +kernel)⟩
theorem lw_p34 : lw_okq (⟨"BottomryLoansModel", "takesNumber", "(II)Z"⟩, 36) := ⟨⟨by decide +kernel, by decide +kernel⟩, List.mem_of_getElem? (i := 672) (by decide +kernel), List.mem_of_getElem? (i := 822) (by decide +kernel), List.mem_of_getElem? (i := 823) (by decide +kernel)⟩
theorem lw_p35 : lw_okq (⟨"BottomryLoansModel", "takesLeg", "()Z"⟩, 36) := ⟨⟨by decide +kernel, by decide +kernel⟩, List.mem_of_getElem? (i := 672) (by decide +kernel), List.mem_of_getElem? (i := 828) (by decide +kernel), List.mem_of_getElem? (i := 829) (by decide +kernel)⟩
theorem lw_p36 : lw_okq (⟨"BottomryLoansModel", "takesLender", "()Z"⟩, 36) := ⟨⟨by decide +kernel, by decide +kernel⟩, List.mem_of_getElem? (i := 672) (by decide +kernel), List.mem_of_getElem? (i := 832) (by decide +kernel), List.mem_of_getElem? (i := 833) (by decide +kernel)⟩
theorem lw_p37 : lw_okq (⟨"BottomryLoansModel", "takes", "(I)Z"⟩, 36) := ⟨⟨by decide +kernel, by decide +kernel⟩, List.mem_of_getElem? (i := 672) (by decide +kernel), List.mem_of_getElem? (i := 836) (by decide +kernel), List.mem_of_getElem? (i := 837) (by decide +kernel)⟩
theorem lw_p38 : lw_okq (⟨"BottomryLoansModel", "where", "()I"⟩, 36) := ⟨⟨by decide +kernel, by decide +kernel⟩, List.mem_of_getElem? (i := 672) (by decide +kernel), List.mem_of_getElem? (i := 848) (by decide +kernel), List.mem_of_getElem? (i := 849) (by decide +kernel)⟩
theorem lw_p39 : lw_okq (⟨"BottomryLoansModel", "owed", "()I"⟩, 36) := ⟨⟨by decide +kernel, by decide +kernel⟩, List.mem_of_getElem? (i := 672) (by decide +kernel), List.mem_of_getElem? (i := 852) (by decide +kernel), List.mem_of_getElem? (i := 853) (by decide +kernel)⟩
theorem lw_p40 : lw_okq (⟨"BottomryLoansModel", "dueOf", "(II)I"⟩, 36) := ⟨⟨by decide +kernel, by decide +kernel⟩, List.mem_of_getElem? (i := 672) (by decide +kernel), List.mem_of_getElem? (i := 856) (by decide +kernel), List.mem_of_getElem? (i := 857) (by decide +kernel)⟩
theorem lw_p41 : lw_okq (⟨"BottomryLoansModel", "leftNow", "()I"⟩, 36) := ⟨⟨by decide +kernel, by decide +kernel⟩, List.mem_of_getElem? (i := 672) (by decide +kernel), List.mem_of_getElem? (i := 860) (by decide +kernel), List.mem_of_getElem? (i := 861) (by decide +kernel)⟩
theorem lw_p42 : lw_okq (⟨"BottomryLoansModel", "paysHome", "(II)V"⟩, 36) := ⟨⟨by decide +kernel, by decide +kernel⟩, List.mem_of_getElem? (i := 672) (by decide +kernel), List.mem_of_getElem? (i := 864) (by decide +kernel), List.mem_of_getElem? (i := 865) (by decide +kernel)⟩
theorem lw_p43 : lw_okq (⟨"BottomryLoansModel", "paysOf", "(III)I"⟩, 36) := ⟨⟨by decide +kernel, by decide +kernel⟩, List.mem_of_getElem? (i := 672) (by decide +kernel), List.mem_of_getElem? (i := 868) (by decide +kernel), List.mem_of_getElem? (i := 869) (by decide +kernel)⟩
theorem lw_p44 : lw_okq (⟨"BottomryLoansModel", "isLeg", "(I)Z"⟩, 36) := ⟨⟨by decide +kernel, by decide +kernel⟩, List.mem_of_getElem? (i := 672) (by decide +kernel), List.mem_of_getElem? (i := 876) (by decide +kernel), List.mem_of_getElem? (i := 877) (by decide +kernel)⟩
theorem lw_p45 : lw_okq (⟨"BottomryLoansModel", "oddsOf", "(II)I"⟩, 36) := ⟨⟨by decide +kernel, by decide +kernel⟩, List.mem_of_getElem? (i := 672) (by decide +kernel), List.mem_of_getElem? (i := 881) (by decide +kernel), List.mem_of_getElem? (i := 882) (by decide +kernel)⟩
theorem lw_p46 : lw_okq (⟨"BottomryLoansModel", "isLender", "(I)Z"⟩, 36) := ⟨⟨by decide +kernel, by decide +kernel⟩, List.mem_of_getElem? (i := 672) (by decide +kernel), List.mem_of_getElem? (i := 889) (by decide +kernel), List.mem_of_getElem? (i := 890) (by decide +kernel)⟩
theorem lw_p47 : lw_okq (⟨"BottomryLoansModel", "yetOf", "(I)I"⟩, 36) := ⟨⟨by decide +kernel, by decide +kernel⟩, List.mem_of_getElem? (i := 672) (by decide +kernel), List.mem_of_getElem? (i := 893) (by decide +kernel), List.mem_of_getElem? (i := 894) (by decide +kernel)⟩
def lw_privs_3 : List (MethodName × Nat) := [(⟨"BottomryLoansModel", "fails", "(II)Z"⟩, 36), (⟨"BottomryLoansModel", "takesShip", "()Z"⟩, 36), (⟨"BottomryLoansModel", "takesNumber", "(II)Z"⟩, 36), (⟨"BottomryLoansModel", "takesLeg", "()Z"⟩, 36), (⟨"BottomryLoansModel", "takesLender", "()Z"⟩, 36), (⟨"BottomryLoansModel", "takes", "(I)Z"⟩, 36), (⟨"BottomryLoansModel", "where", "()I"⟩, 36), (⟨"BottomryLoansModel", "owed", "()I"⟩, 36), (⟨"BottomryLoansModel", "dueOf", "(II)I"⟩, 36), (⟨"BottomryLoansModel", "leftNow", "()I"⟩, 36), (⟨"BottomryLoansModel", "paysHome", "(II)V"⟩, 36), (⟨"BottomryLoansModel", "paysOf", "(III)I"⟩, 36), (⟨"BottomryLoansModel", "isLeg", "(I)Z"⟩, 36), (⟨"BottomryLoansModel", "oddsOf", "(II)I"⟩, 36), (⟨"BottomryLoansModel", "isLender", "(I)Z"⟩, 36), (⟨"BottomryLoansModel", "yetOf", "(I)I"⟩, 36)]
theorem lw_r3 : ∀ q ∈ lw_privs_3, lw_okq q := List.forall_mem_cons.mpr ⟨lw_p32, List.forall_mem_cons.mpr ⟨lw_p33, List.forall_mem_cons.mpr ⟨lw_p34, List.forall_mem_cons.mpr ⟨lw_p35, List.forall_mem_cons.mpr ⟨lw_p36, List.forall_mem_cons.mpr ⟨lw_p37, List.forall_mem_cons.mpr ⟨lw_p38, List.forall_mem_cons.mpr ⟨lw_p39, List.forall_mem_cons.mpr ⟨lw_p40, List.forall_mem_cons.mpr ⟨lw_p41, List.forall_mem_cons.mpr ⟨lw_p42, List.forall_mem_cons.mpr ⟨lw_p43, List.forall_mem_cons.mpr ⟨lw_p44, List.forall_mem_cons.mpr ⟨lw_p45, List.forall_mem_cons.mpr ⟨lw_p46, List.forall_mem_cons.mpr ⟨lw_p47, fun _ h => absurd h List.not_mem_nil⟩⟩⟩⟩⟩⟩⟩⟩⟩⟩⟩⟩⟩⟩⟩⟩
theorem lw_p48 : lw_okq (⟨"BottomryLoansModel", "isLoan", "(I)Z"⟩, 36) := ⟨⟨by decide +kernel, by decide +kernel⟩, List.mem_of_getElem? (i := 672) (by decide +kernel), List.mem_of_getElem? (i := 901) (by decide +kernel), List.mem_of_getElem? (i := 902) (by decide +kernel)⟩
theorem lw_p49 : lw_okq (⟨"BottomryLoansModel", "rankOf", "(I)I"⟩, 36) := ⟨⟨by decide +kernel, by decide +kernel⟩, List.mem_of_getElem? (i := 672) (by decide +kernel), List.mem_of_getElem? (i := 905) (by decide +kernel), List.mem_of_getElem? (i := 906) (by decide +kernel)⟩
theorem lw_p50 : lw_okq (⟨"BottomryLoansModel", "copy", "(II)V"⟩, 36) := ⟨⟨by decide +kernel, by decide +kernel⟩, List.mem_of_getElem? (i := 672) (by decide +kernel), List.mem_of_getElem? (i := 914) (by decide +kernel), List.mem_of_getElem? (i := 915) (by decide +kernel)⟩
theorem lw_p51 : lw_okq (⟨"BottomryLoansModel", "minds", "()V"⟩, 36) := ⟨⟨by decide +kernel, by decide +kernel⟩, List.mem_of_getElem? (i := 672) (by decide +kernel), List.mem_of_getElem? (i := 923) (by decide +kernel), List.mem_of_getElem? (i := 924) (by decide +kernel)⟩
theorem lw_p52 : lw_okq (⟨"BottomryLoansModel", "takesLoan", "(IIIZ)V"⟩, 36) := ⟨⟨by decide +kernel, by decide +kernel⟩, List.mem_of_getElem? (i := 672) (by decide +kernel), List.mem_of_getElem? (i := 927) (by decide +kernel), List.mem_of_getElem? (i := 928) (by decide +kernel)⟩
theorem lw_p53 : lw_okq (⟨"BottomryLoansModel", "sails", "(Z)V"⟩, 36) := ⟨⟨by decide +kernel, by decide +kernel⟩, List.mem_of_getElem? (i := 672) (by decide +kernel), List.mem_of_getElem? (i := 940) (by decide +kernel), List.mem_of_getElem? (i := 941) (by decide +kernel)⟩
theorem lw_p54 : lw_okq (⟨"BottomryLoansModel", "draw", "(I)I"⟩, 36) := ⟨⟨by decide +kernel, by decide +kernel⟩, List.mem_of_getElem? (i := 672) (by decide +kernel), List.mem_of_getElem? (i := 949) (by decide +kernel), List.mem_of_getElem? (i := 950) (by decide +kernel)⟩
theorem lw_p55 : lw_okq (⟨"BottomryLoansModel", "isGone", "()Z"⟩, 36) := ⟨⟨by decide +kernel, by decide +kernel⟩, List.mem_of_getElem? (i := 672) (by decide +kernel), List.mem_of_getElem? (i := 961) (by decide +kernel), List.mem_of_getElem? (i := 962) (by decide +kernel)⟩
theorem lw_p56 : lw_okq (⟨"BottomryLoansModel", "homeNow", "()J"⟩, 36) := ⟨⟨by decide +kernel, by decide +kernel⟩, List.mem_of_getElem? (i := 672) (by decide +kernel), List.mem_of_getElem? (i := 965) (by decide +kernel), List.mem_of_getElem? (i := 966) (by decide +kernel)⟩
theorem lw_p57 : lw_okq (⟨"BottomryLoansModel", "through", "(III)J"⟩, 36) := ⟨⟨by decide +kernel, by decide +kernel⟩, List.mem_of_getElem? (i := 672) (by decide +kernel), List.mem_of_getElem? (i := 969) (by decide +kernel), List.mem_of_getElem? (i := 970) (by decide +kernel)⟩
theorem lw_p58 : lw_okq (⟨"BottomryLoansModel", "rateNow", "()I"⟩, 36) := ⟨⟨by decide +kernel, by decide +kernel⟩, List.mem_of_getElem? (i := 672) (by decide +kernel), List.mem_of_getElem? (i := 979) (by decide +kernel), List.mem_of_getElem? (i := 980) (by decide +kernel)⟩
theorem lw_p59 : lw_okq (⟨"BottomryLoansModel", "findPlan", "()V"⟩, 36) := ⟨⟨by decide +kernel, by decide +kernel⟩, List.mem_of_getElem? (i := 672) (by decide +kernel), List.mem_of_getElem? (i := 1004) (by decide +kernel), List.mem_of_getElem? (i := 1005) (by decide +kernel)⟩
def lw_privs_4 : List (MethodName × Nat) := [(⟨"BottomryLoansModel", "isLoan", "(I)Z"⟩, 36), (⟨"BottomryLoansModel", "rankOf", "(I)I"⟩, 36), (⟨"BottomryLoansModel", "copy", "(II)V"⟩, 36), (⟨"BottomryLoansModel", "minds", "()V"⟩, 36), (⟨"BottomryLoansModel", "takesLoan", "(IIIZ)V"⟩, 36), (⟨"BottomryLoansModel", "sails", "(Z)V"⟩, 36), (⟨"BottomryLoansModel", "draw", "(I)I"⟩, 36), (⟨"BottomryLoansModel", "isGone", "()Z"⟩, 36), (⟨"BottomryLoansModel", "homeNow", "()J"⟩, 36), (⟨"BottomryLoansModel", "through", "(III)J"⟩, 36), (⟨"BottomryLoansModel", "rateNow", "()I"⟩, 36), (⟨"BottomryLoansModel", "findPlan", "()V"⟩, 36)]
theorem lw_r4 : ∀ q ∈ lw_privs_4, lw_okq q := List.forall_mem_cons.mpr ⟨lw_p48, List.forall_mem_cons.mpr ⟨lw_p49, List.forall_mem_cons.mpr ⟨lw_p50, List.forall_mem_cons.mpr ⟨lw_p51, List.forall_mem_cons.mpr ⟨lw_p52, List.forall_mem_cons.mpr ⟨lw_p53, List.forall_mem_cons.mpr ⟨lw_p54, List.forall_mem_cons.mpr ⟨lw_p55, List.forall_mem_cons.mpr ⟨lw_p56, List.forall_mem_cons.mpr ⟨lw_p57, List.forall_mem_cons.mpr ⟨lw_p58, List.forall_mem_cons.mpr ⟨lw_p59, fun _ h => absurd h List.not_mem_nil⟩⟩⟩⟩⟩⟩⟩⟩⟩⟩⟩⟩
def lw_privs : List (MethodName × Nat) := lw_privs_1 ++ (lw_privs_2 ++ (lw_privs_3 ++ (lw_privs_4)))
def lw_tbl : List Cond := k2_sels lw_privs ++ tables_1
theorem lw_privs_ok : ∀ q ∈ lw_privs, lw_okq q := by
  show ∀ q ∈ lw_privs_1 ++ (lw_privs_2 ++ (lw_privs_3 ++ (lw_privs_4))), lw_okq q
  exact List.forall_mem_append.mpr ⟨lw_r1, List.forall_mem_append.mpr ⟨lw_r2, List.forall_mem_append.mpr ⟨lw_r3, lw_r4⟩⟩⟩
end
section
def RX0 : String := "BottomryLoans$Image"
def TX0 : u_T := fun k => match k with
  | 0 => ("BottomryLoans$Image", "ship", "LBottomryLoans$She;", true)
  | 1 => ("BottomryLoans$Image", "seedThen", "I", false)
  | _ => ("BottomryLoans$Image", "kept", "Z", false)
def tyX0 : Nat → FieldType := fun k => match k with
  | 0 => .object "BottomryLoans$She"
  | 1 => .int
  | _ => .boolean
abbrev wsX00 : List Cond := u_ws RX0 TX0 3
theorem nmX0 : ∀ a, a < 3 → ∀ b, b < 3 → a ≠ b → (TX0 a).2.1 ≠ (TX0 b).2.1 := by decide +kernel
theorem tyX0_ok : ∀ k, k < 3 → parseFieldDescriptor (TX0 k).2.2.1 = some (tyX0 k) := by decide +kernel
abbrev cX0_init : ByteArray := prog_2_method_1_code
def yX0_init : MethodName := ⟨RX0, "<init>", "()V"⟩
def RX1 : String := "BottomryLoans$Past"
def TX1 : u_T := fun k => match k with
  | 0 => ("BottomryLoans$Past", "ring", "[LBottomryLoans$She;", true)
  | 1 => ("BottomryLoans$Past", "next", "I", false)
  | _ => ("BottomryLoans$Past", "acts", "I", false)
def tyX1 : Nat → FieldType := fun k => match k with
  | 0 => .array (.object "BottomryLoans$She")
  | 1 => .int
  | _ => .int
abbrev wsX10 : List Cond := u_ws RX1 TX1 3
theorem nmX1 : ∀ a, a < 3 → ∀ b, b < 3 → a ≠ b → (TX1 a).2.1 ≠ (TX1 b).2.1 := by decide +kernel
theorem tyX1_ok : ∀ k, k < 3 → parseFieldDescriptor (TX1 k).2.2.1 = some (tyX1 k) := by decide +kernel
abbrev cX1_init : ByteArray := prog_3_method_1_code
def yX1_init : MethodName := ⟨RX1, "<init>", "()V"⟩
abbrev cX1_acts : ByteArray := prog_3_method_2_code
def yX1_acts : MethodName := ⟨RX1, "acts", "()I"⟩
abbrev cX1_clear : ByteArray := prog_3_method_3_code
def yX1_clear : MethodName := ⟨RX1, "clear", "()V"⟩
abbrev cX1_put : ByteArray := prog_3_method_4_code
def yX1_put : MethodName := ⟨RX1, "put", "(LBottomryLoans$She;)V"⟩
abbrev cX1_takeBack : ByteArray := prog_3_method_5_code
def yX1_takeBack : MethodName := ⟨RX1, "takeBack", "(LBottomryLoans$She;)V"⟩
abbrev cX1_slotOf : ByteArray := prog_3_method_6_code
def yX1_slotOf : MethodName := ⟨RX1, "slotOf", "(I)LBottomryLoans$She;"⟩
def RX2 : String := "BottomryLoans$Planner"
def TX2 : u_T := fun k => match k with
  | 0 => ("BottomryLoans$Planner", "voyage", "LBottomryLoans$Voyage;", true)
  | 1 => ("BottomryLoans$Planner", "tried", "LBottomryLoans$Table;", true)
  | 2 => ("BottomryLoans$Planner", "best", "LBottomryLoans$Table;", true)
  | 3 => ("BottomryLoans$Planner", "firstLeg", "I", false)
  | 4 => ("BottomryLoans$Planner", "leftBesidesPurse", "I", false)
  | 5 => ("BottomryLoans$Planner", "most", "J", false)
  | _ => ("BottomryLoans$Planner", "done", "Z", false)
def tyX2 : Nat → FieldType := fun k => match k with
  | 0 => .object "BottomryLoans$Voyage"
  | 1 => .object "BottomryLoans$Table"
  | 2 => .object "BottomryLoans$Table"
  | 3 => .int
  | 4 => .int
  | 5 => .long
  | _ => .boolean
abbrev wsX20 : List Cond := u_ws RX2 TX2 7
theorem nmX2 : ∀ a, a < 7 → ∀ b, b < 7 → a ≠ b → (TX2 a).2.1 ≠ (TX2 b).2.1 := by decide +kernel
theorem tyX2_ok : ∀ k, k < 7 → parseFieldDescriptor (TX2 k).2.2.1 = some (tyX2 k) := by decide +kernel
abbrev cX2_init : ByteArray := prog_4_method_1_code
def yX2_init : MethodName := ⟨RX2, "<init>", "(LBottomryLoans$Voyage;)V"⟩
abbrev cX2_forget : ByteArray := prog_4_method_2_code
def yX2_forget : MethodName := ⟨RX2, "forget", "()V"⟩
abbrev cX2_isDone : ByteArray := prog_4_method_3_code
def yX2_isDone : MethodName := ⟨RX2, "isDone", "()Z"⟩
abbrev cX2_howMuch : ByteArray := prog_4_method_4_code
def yX2_howMuch : MethodName := ⟨RX2, "howMuch", "()I"⟩
abbrev cX2_pointsIn : ByteArray := prog_4_method_5_code
def yX2_pointsIn : MethodName := ⟨RX2, "pointsIn", "(I)I"⟩
abbrev cX2_findBest : ByteArray := prog_4_method_6_code
def yX2_findBest : MethodName := ⟨RX2, "findBest", "(LBottomryLoans$She;I)V"⟩
abbrev cX2_tryFrom : ByteArray := prog_4_method_7_code
def yX2_tryFrom : MethodName := ⟨RX2, "tryFrom", "(IIII)V"⟩
abbrev cX2_tryPoints : ByteArray := prog_4_method_8_code
def yX2_tryPoints : MethodName := ⟨RX2, "tryPoints", "(IIIII)V"⟩
def RX3 : String := "BottomryLoans$Reader"
def TX3 : u_T := fun k => match k with
  | 0 => ("BottomryLoans$Reader", "text", "LBottomryLoans$Table;", true)
  | 1 => ("BottomryLoans$Reader", "draft", "LBottomryLoans$Voyage;", true)
  | 2 => ("BottomryLoans$Reader", "at", "I", false)
  | 3 => ("BottomryLoans$Reader", "faultKind", "I", false)
  | _ => ("BottomryLoans$Reader", "faultAt", "I", false)
def tyX3 : Nat → FieldType := fun k => match k with
  | 0 => .object "BottomryLoans$Table"
  | 1 => .object "BottomryLoans$Voyage"
  | 2 => .int
  | 3 => .int
  | _ => .int
abbrev wsX30 : List Cond := u_ws RX3 TX3 5
theorem nmX3 : ∀ a, a < 5 → ∀ b, b < 5 → a ≠ b → (TX3 a).2.1 ≠ (TX3 b).2.1 := by decide +kernel
theorem tyX3_ok : ∀ k, k < 5 → parseFieldDescriptor (TX3 k).2.2.1 = some (tyX3 k) := by decide +kernel
abbrev cX3_init : ByteArray := prog_5_method_1_code
def yX3_init : MethodName := ⟨RX3, "<init>", "(LBottomryLoans$Table;)V"⟩
abbrev cX3_readText : ByteArray := prog_5_method_2_code
def yX3_readText : MethodName := ⟨RX3, "readText", "()I"⟩
abbrev cX3_placeOfFault : ByteArray := prog_5_method_3_code
def yX3_placeOfFault : MethodName := ⟨RX3, "placeOfFault", "()I"⟩
abbrev cX3_whatWasRead : ByteArray := prog_5_method_4_code
def yX3_whatWasRead : MethodName := ⟨RX3, "whatWasRead", "()LBottomryLoans$Voyage;"⟩
abbrev cX3_letter : ByteArray := prog_5_method_5_code
def yX3_letter : MethodName := ⟨RX3, "letter", "()I"⟩
abbrev cX3_refuse : ByteArray := prog_5_method_6_code
def yX3_refuse : MethodName := ⟨RX3, "refuse", "(II)V"⟩
abbrev cX3_skipBlanks : ByteArray := prog_5_method_7_code
def yX3_skipBlanks : MethodName := ⟨RX3, "skipBlanks", "()V"⟩
abbrev cX3_readClause : ByteArray := prog_5_method_8_code
def yX3_readClause : MethodName := ⟨RX3, "readClause", "()V"⟩
abbrev cX3_wordOf : ByteArray := prog_5_method_9_code
def yX3_wordOf : MethodName := ⟨RX3, "wordOf", "(I)I"⟩
abbrev cX3_clausesOf : ByteArray := prog_5_method_10_code
def yX3_clausesOf : MethodName := ⟨RX3, "clausesOf", "(I)LBottomryLoans$Table;"⟩
abbrev cX3_readNumber : ByteArray := prog_5_method_11_code
def yX3_readNumber : MethodName := ⟨RX3, "readNumber", "(I)I"⟩
abbrev cX3_isWithin : ByteArray := prog_5_method_12_code
def yX3_isWithin : MethodName := ⟨RX3, "isWithin", "(II)Z"⟩
abbrev cX3_readEnd : ByteArray := prog_5_method_13_code
def yX3_readEnd : MethodName := ⟨RX3, "readEnd", "()V"⟩
def RX4 : String := "BottomryLoans$She"
def TX4 : u_T := fun k => match k with
  | 0 => ("BottomryLoans$She", "loans", "LBottomryLoans$Table;", true)
  | 1 => ("BottomryLoans$She", "state", "I", false)
  | 2 => ("BottomryLoans$She", "purse", "I", false)
  | 3 => ("BottomryLoans$She", "sailed", "I", false)
  | _ => ("BottomryLoans$She", "lost", "Z", false)
def tyX4 : Nat → FieldType := fun k => match k with
  | 0 => .object "BottomryLoans$Table"
  | 1 => .int
  | 2 => .int
  | 3 => .int
  | _ => .boolean
abbrev wsX40 : List Cond := u_ws RX4 TX4 5
theorem nmX4 : ∀ a, a < 5 → ∀ b, b < 5 → a ≠ b → (TX4 a).2.1 ≠ (TX4 b).2.1 := by decide +kernel
theorem tyX4_ok : ∀ k, k < 5 → parseFieldDescriptor (TX4 k).2.2.1 = some (tyX4 k) := by decide +kernel
abbrev cX4_init : ByteArray := prog_6_method_1_code
def yX4_init : MethodName := ⟨RX4, "<init>", "()V"⟩
abbrev cX4_begin : ByteArray := prog_6_method_2_code
def yX4_begin : MethodName := ⟨RX4, "begin", "(LBottomryLoans$Voyage;)V"⟩
abbrev cX4_become : ByteArray := prog_6_method_3_code
def yX4_become : MethodName := ⟨RX4, "become", "(LBottomryLoans$She;)V"⟩
abbrev cX4_sailOn : ByteArray := prog_6_method_4_code
def yX4_sailOn : MethodName := ⟨RX4, "sailOn", "(Z)V"⟩
abbrev cX4_lentBy : ByteArray := prog_6_method_5_code
def yX4_lentBy : MethodName := ⟨RX4, "lentBy", "(I)I"⟩
abbrev cX4_dueFrom : ByteArray := prog_6_method_6_code
def yX4_dueFrom : MethodName := ⟨RX4, "dueFrom", "(II)I"⟩
abbrev cX4_rankOf : ByteArray := prog_6_method_7_code
def yX4_rankOf : MethodName := ⟨RX4, "rankOf", "(I)I"⟩
abbrev cX4_paidOf : ByteArray := prog_6_method_8_code
def yX4_paidOf : MethodName := ⟨RX4, "paidOf", "(III)I"⟩
abbrev cX4_countFrom : ByteArray := prog_6_method_9_code
def yX4_countFrom : MethodName := ⟨RX4, "countFrom", "(II)I"⟩
def RX5 : String := "BottomryLoans$Table"
def TX5 : u_T := fun k => match k with
  | 0 => ("BottomryLoans$Table", "width", "I", true)
  | 1 => ("BottomryLoans$Table", "most", "I", true)
  | 2 => ("BottomryLoans$Table", "cells", "[I", true)
  | _ => ("BottomryLoans$Table", "rows", "I", false)
def tyX5 : Nat → FieldType := fun k => match k with
  | 0 => .int
  | 1 => .int
  | 2 => .array .int
  | _ => .int
abbrev wsX50 : List Cond := u_ws RX5 TX5 4
theorem nmX5 : ∀ a, a < 4 → ∀ b, b < 4 → a ≠ b → (TX5 a).2.1 ≠ (TX5 b).2.1 := by decide +kernel
theorem tyX5_ok : ∀ k, k < 4 → parseFieldDescriptor (TX5 k).2.2.1 = some (tyX5 k) := by decide +kernel
abbrev cX5_init : ByteArray := prog_7_method_1_code
def yX5_init : MethodName := ⟨RX5, "<init>", "(II)V"⟩
abbrev cX5_width : ByteArray := prog_7_method_2_code
def yX5_width : MethodName := ⟨RX5, "width", "()I"⟩
abbrev cX5_rows : ByteArray := prog_7_method_3_code
def yX5_rows : MethodName := ⟨RX5, "rows", "()I"⟩
abbrev cX5_has : ByteArray := prog_7_method_4_code
def yX5_has : MethodName := ⟨RX5, "has", "(I)Z"⟩
abbrev cX5_isFull : ByteArray := prog_7_method_5_code
def yX5_isFull : MethodName := ⟨RX5, "isFull", "()Z"⟩
abbrev cX5_clear : ByteArray := prog_7_method_6_code
def yX5_clear : MethodName := ⟨RX5, "clear", "()V"⟩
abbrev cX5_get : ByteArray := prog_7_method_7_code
def yX5_get : MethodName := ⟨RX5, "get", "(II)I"⟩
abbrev cX5_set : ByteArray := prog_7_method_8_code
def yX5_set : MethodName := ⟨RX5, "set", "(III)V"⟩
abbrev cX5_open : ByteArray := prog_7_method_9_code
def yX5_open : MethodName := ⟨RX5, "open", "()I"⟩
abbrev cX5_add : ByteArray := prog_7_method_10_code
def yX5_add : MethodName := ⟨RX5, "add", "(I)V"⟩
abbrev cX5_become : ByteArray := prog_7_method_11_code
def yX5_become : MethodName := ⟨RX5, "become", "(LBottomryLoans$Table;)V"⟩
abbrev cX5_cellOf : ByteArray := prog_7_method_12_code
def yX5_cellOf : MethodName := ⟨RX5, "cellOf", "(II)I"⟩
def RX6 : String := "BottomryLoans$Voyage"
def TX6 : u_T := fun k => match k with
  | 0 => ("BottomryLoans$Voyage", "ship", "LBottomryLoans$Table;", true)
  | 1 => ("BottomryLoans$Voyage", "legs", "LBottomryLoans$Table;", true)
  | _ => ("BottomryLoans$Voyage", "lenders", "LBottomryLoans$Table;", true)
def tyX6 : Nat → FieldType := fun k => match k with
  | 0 => .object "BottomryLoans$Table"
  | 1 => .object "BottomryLoans$Table"
  | _ => .object "BottomryLoans$Table"
abbrev wsX60 : List Cond := u_ws RX6 TX6 3
theorem nmX6 : ∀ a, a < 3 → ∀ b, b < 3 → a ≠ b → (TX6 a).2.1 ≠ (TX6 b).2.1 := by decide +kernel
theorem tyX6_ok : ∀ k, k < 3 → parseFieldDescriptor (TX6 k).2.2.1 = some (tyX6 k) := by decide +kernel
abbrev cX6_init : ByteArray := prog_8_method_1_code
def yX6_init : MethodName := ⟨RX6, "<init>", "()V"⟩
abbrev cX6_clear : ByteArray := prog_8_method_2_code
def yX6_clear : MethodName := ⟨RX6, "clear", "()V"⟩
abbrev cX6_become : ByteArray := prog_8_method_3_code
def yX6_become : MethodName := ⟨RX6, "become", "(LBottomryLoans$Voyage;)V"⟩
abbrev cX6_oddsOf : ByteArray := prog_8_method_4_code
def yX6_oddsOf : MethodName := ⟨RX6, "oddsOf", "(II)I"⟩
abbrev cX6_comeThrough : ByteArray := prog_8_method_5_code
def yX6_comeThrough : MethodName := ⟨RX6, "comeThrough", "(III)I"⟩
abbrev cX6_chanceThrough : ByteArray := prog_8_method_6_code
def yX6_chanceThrough : MethodName := ⟨RX6, "chanceThrough", "(III)I"⟩
abbrev cX6_dueOf : ByteArray := prog_8_method_7_code
def yX6_dueOf : MethodName := ⟨RX6, "dueOf", "(II)I"⟩
def RX7 : String := "BottomryLoans"
def TX7 : u_T := fun k => match k with
  | 0 => ("BottomryLoans", "text", "LBottomryLoans$Table;", true)
  | 1 => ("BottomryLoans", "reader", "LBottomryLoans$Reader;", true)
  | 2 => ("BottomryLoans", "voyage", "LBottomryLoans$Voyage;", true)
  | 3 => ("BottomryLoans", "she", "LBottomryLoans$She;", true)
  | 4 => ("BottomryLoans", "past", "LBottomryLoans$Past;", true)
  | 5 => ("BottomryLoans", "firstImage", "LBottomryLoans$Image;", true)
  | 6 => ("BottomryLoans", "secondImage", "LBottomryLoans$Image;", true)
  | 7 => ("BottomryLoans", "planner", "LBottomryLoans$Planner;", true)
  | 8 => ("BottomryLoans", "toldPaid", "LBottomryLoans$Table;", true)
  | 9 => ("BottomryLoans", "book", "LBottomryLoans$Table;", true)
  | 10 => ("BottomryLoans", "faultPlace", "I", false)
  | _ => ("BottomryLoans", "drawSeed", "I", false)
def tyX7 : Nat → FieldType := fun k => match k with
  | 0 => .object "BottomryLoans$Table"
  | 1 => .object "BottomryLoans$Reader"
  | 2 => .object "BottomryLoans$Voyage"
  | 3 => .object "BottomryLoans$She"
  | 4 => .object "BottomryLoans$Past"
  | 5 => .object "BottomryLoans$Image"
  | 6 => .object "BottomryLoans$Image"
  | 7 => .object "BottomryLoans$Planner"
  | 8 => .object "BottomryLoans$Table"
  | 9 => .object "BottomryLoans$Table"
  | 10 => .int
  | _ => .int
abbrev wsX70 : List Cond := u_ws RX7 TX7 12
theorem nmX7 : ∀ a, a < 12 → ∀ b, b < 12 → a ≠ b → (TX7 a).2.1 ≠ (TX7 b).2.1 := by decide +kernel
theorem tyX7_ok : ∀ k, k < 12 → parseFieldDescriptor (TX7 k).2.2.1 = some (tyX7 k) := by decide +kernel
abbrev cX7_init : ByteArray := prog_1_method_1_code
def yX7_init : MethodName := ⟨RX7, "<init>", "()V"⟩
abbrev cX7_feed : ByteArray := prog_1_method_2_code
def yX7_feed : MethodName := ⟨RX7, "feed", "(I)I"⟩
abbrev cX7_voyage : ByteArray := prog_1_method_3_code
def yX7_voyage : MethodName := ⟨RX7, "voyage", "()I"⟩
abbrev cX7_fault : ByteArray := prog_1_method_4_code
def yX7_fault : MethodName := ⟨RX7, "fault", "()I"⟩
abbrev cX7_told : ByteArray := prog_1_method_5_code
def yX7_told : MethodName := ⟨RX7, "told", "(I)I"⟩
abbrev cX7_leg : ByteArray := prog_1_method_6_code
def yX7_leg : MethodName := ⟨RX7, "leg", "(II)I"⟩
abbrev cX7_lender : ByteArray := prog_1_method_7_code
def yX7_lender : MethodName := ⟨RX7, "lender", "(II)I"⟩
abbrev cX7_loan : ByteArray := prog_1_method_8_code
def yX7_loan : MethodName := ⟨RX7, "loan", "(II)I"⟩
abbrev cX7_borrow : ByteArray := prog_1_method_9_code
def yX7_borrow : MethodName := ⟨RX7, "borrow", "(IIZ)I"⟩
abbrev cX7_repair : ByteArray := prog_1_method_10_code
def yX7_repair : MethodName := ⟨RX7, "repair", "(I)I"⟩
abbrev cX7_sail : ByteArray := prog_1_method_11_code
def yX7_sail : MethodName := ⟨RX7, "sail", "(Z)I"⟩
abbrev cX7_drift : ByteArray := prog_1_method_12_code
def yX7_drift : MethodName := ⟨RX7, "drift", "(I)I"⟩
abbrev cX7_undo : ByteArray := prog_1_method_13_code
def yX7_undo : MethodName := ⟨RX7, "undo", "()I"⟩
abbrev cX7_comesHome : ByteArray := prog_1_method_14_code
def yX7_comesHome : MethodName := ⟨RX7, "comesHome", "()I"⟩
abbrev cX7_rate : ByteArray := prog_1_method_15_code
def yX7_rate : MethodName := ⟨RX7, "rate", "()I"⟩
abbrev cX7_willing : ByteArray := prog_1_method_16_code
def yX7_willing : MethodName := ⟨RX7, "willing", "()I"⟩
abbrev cX7_paid : ByteArray := prog_1_method_17_code
def yX7_paid : MethodName := ⟨RX7, "paid", "(I)I"⟩
abbrev cX7_hurt : ByteArray := prog_1_method_18_code
def yX7_hurt : MethodName := ⟨RX7, "hurt", "(IIZ)I"⟩
abbrev cX7_share : ByteArray := prog_1_method_19_code
def yX7_share : MethodName := ⟨RX7, "share", "(II)I"⟩
abbrev cX7_plan : ByteArray := prog_1_method_20_code
def yX7_plan : MethodName := ⟨RX7, "plan", "(I)I"⟩
abbrev cX7_belief : ByteArray := prog_1_method_21_code
def yX7_belief : MethodName := ⟨RX7, "belief", "(II)I"⟩
abbrev cX7_need : ByteArray := prog_1_method_22_code
def yX7_need : MethodName := ⟨RX7, "need", "(II)I"⟩
abbrev cX7_tell : ByteArray := prog_1_method_23_code
def yX7_tell : MethodName := ⟨RX7, "tell", "(II)I"⟩
abbrev cX7_worth : ByteArray := prog_1_method_24_code
def yX7_worth : MethodName := ⟨RX7, "worth", "(I)I"⟩
abbrev cX7_write : ByteArray := prog_1_method_25_code
def yX7_write : MethodName := ⟨RX7, "write", "(I)I"⟩
abbrev cX7_tear : ByteArray := prog_1_method_26_code
def yX7_tear : MethodName := ⟨RX7, "tear", "()I"⟩
abbrev cX7_judge : ByteArray := prog_1_method_27_code
def yX7_judge : MethodName := ⟨RX7, "judge", "()I"⟩
abbrev cX7_seed : ByteArray := prog_1_method_28_code
def yX7_seed : MethodName := ⟨RX7, "seed", "(I)I"⟩
abbrev cX7_keep : ByteArray := prog_1_method_29_code
def yX7_keep : MethodName := ⟨RX7, "keep", "(I)I"⟩
abbrev cX7_goBack : ByteArray := prog_1_method_30_code
def yX7_goBack : MethodName := ⟨RX7, "goBack", "(I)I"⟩
abbrev cX7_whereSheIs : ByteArray := prog_1_method_31_code
def yX7_whereSheIs : MethodName := ⟨RX7, "whereSheIs", "()I"⟩
abbrev cX7_isInPort : ByteArray := prog_1_method_32_code
def yX7_isInPort : MethodName := ⟨RX7, "isInPort", "()Z"⟩
abbrev cX7_cannotTry : ByteArray := prog_1_method_33_code
def yX7_cannotTry : MethodName := ⟨RX7, "cannotTry", "()Z"⟩
abbrev cX7_costHere : ByteArray := prog_1_method_34_code
def yX7_costHere : MethodName := ⟨RX7, "costHere", "()I"⟩
abbrev cX7_remember : ByteArray := prog_1_method_35_code
def yX7_remember : MethodName := ⟨RX7, "remember", "()V"⟩
abbrev cX7_drawOfHundred : ByteArray := prog_1_method_36_code
def yX7_drawOfHundred : MethodName := ⟨RX7, "drawOfHundred", "()I"⟩
abbrev cX7_imageOf : ByteArray := prog_1_method_37_code
def yX7_imageOf : MethodName := ⟨RX7, "imageOf", "(I)LBottomryLoans$Image;"⟩
abbrev cX7_hasYet : ByteArray := prog_1_method_38_code
def yX7_hasYet : MethodName := ⟨RX7, "hasYet", "(I)I"⟩
abbrev cX7_cheapestLender : ByteArray := prog_1_method_39_code
def yX7_cheapestLender : MethodName := ⟨RX7, "cheapestLender", "(I)I"⟩
abbrev cX7_rateFor : ByteArray := prog_1_method_40_code
def yX7_rateFor : MethodName := ⟨RX7, "rateFor", "(I)I"⟩
abbrev cX7_shipMoney : ByteArray := prog_1_method_41_code
def yX7_shipMoney : MethodName := ⟨RX7, "shipMoney", "(I)I"⟩
abbrev cX7_paidNow : ByteArray := prog_1_method_42_code
def yX7_paidNow : MethodName := ⟨RX7, "paidNow", "(I)I"⟩
abbrev cX7_leftBesidesPurse : ByteArray := prog_1_method_43_code
def yX7_leftBesidesPurse : MethodName := ⟨RX7, "leftBesidesPurse", "()I"⟩
abbrev cX7_canBeSo : ByteArray := prog_1_method_44_code
def yX7_canBeSo : MethodName := ⟨RX7, "canBeSo", "(I)Z"⟩
abbrev cX7_isFreightTold : ByteArray := prog_1_method_45_code
def yX7_isFreightTold : MethodName := ⟨RX7, "isFreightTold", "(I)Z"⟩
abbrev cX7_leastWorthFor : ByteArray := prog_1_method_46_code
def yX7_leastWorthFor : MethodName := ⟨RX7, "leastWorthFor", "(I)I"⟩
abbrev cX7_greatestWorthFor : ByteArray := prog_1_method_47_code
def yX7_greatestWorthFor : MethodName := ⟨RX7, "greatestWorthFor", "(I)I"⟩
abbrev cX7_worthJustFor : ByteArray := prog_1_method_48_code
def yX7_worthJustFor : MethodName := ⟨RX7, "worthJustFor", "(I)I"⟩
def RX8 : String := "BottomryLoansModel"
def TX8 : u_T := fun k => match k with
  | 0 => ("BottomryLoansModel", "w", "[I", true)
  | 1 => ("BottomryLoansModel", "isKept", "[Z", true)
  | 2 => ("BottomryLoansModel", "undoes", "I", false)
  | 3 => ("BottomryLoansModel", "isShip", "Z", false)
  | 4 => ("BottomryLoansModel", "worthOf", "I", false)
  | 5 => ("BottomryLoansModel", "freightOf", "I", false)
  | 6 => ("BottomryLoansModel", "legs", "I", false)
  | 7 => ("BottomryLoansModel", "odds", "[I", true)
  | 8 => ("BottomryLoansModel", "worse", "[I", true)
  | 9 => ("BottomryLoansModel", "cost", "[I", true)
  | 10 => ("BottomryLoansModel", "lenders", "I", false)
  | 11 => ("BottomryLoansModel", "has", "[I", true)
  | 12 => ("BottomryLoansModel", "asks", "[I", true)
  | 13 => ("BottomryLoansModel", "text", "[I", true)
  | 14 => ("BottomryLoansModel", "texted", "I", false)
  | 15 => ("BottomryLoansModel", "at", "I", false)
  | 16 => ("BottomryLoansModel", "start", "I", false)
  | 17 => ("BottomryLoansModel", "number", "I", false)
  | 18 => ("BottomryLoansModel", "faulty", "I", false)
  | 19 => ("BottomryLoansModel", "faultAt", "I", false)
  | 20 => ("BottomryLoansModel", "hasShip", "Z", false)
  | 21 => ("BottomryLoansModel", "readShip", "[I", true)
  | 22 => ("BottomryLoansModel", "readLegs", "I", false)
  | 23 => ("BottomryLoansModel", "readLeg", "[I", true)
  | 24 => ("BottomryLoansModel", "readLenders", "I", false)
  | 25 => ("BottomryLoansModel", "readLender", "[I", true)
  | 26 => ("BottomryLoansModel", "pays", "[I", true)
  | 27 => ("BottomryLoansModel", "rest", "I", false)
  | 28 => ("BottomryLoansModel", "before", "[I", true)
  | 29 => ("BottomryLoansModel", "planBest", "I", false)
  | 30 => ("BottomryLoansModel", "planMost", "J", false)
  | 31 => ("BottomryLoansModel", "tolds", "I", false)
  | 32 => ("BottomryLoansModel", "toldLoan", "[I", true)
  | 33 => ("BottomryLoansModel", "toldPaid", "[I", true)
  | 34 => ("BottomryLoansModel", "booked", "I", false)
  | _ => ("BottomryLoansModel", "book", "[I", true)
def tyX8 : Nat → FieldType := fun k => match k with
  | 0 => .array .int
  | 1 => .array .boolean
  | 2 => .int
  | 3 => .boolean
  | 4 => .int
  | 5 => .int
  | 6 => .int
  | 7 => .array .int
  | 8 => .array .int
  | 9 => .array .int
  | 10 => .int
  | 11 => .array .int
  | 12 => .array .int
  | 13 => .array .int
  | 14 => .int
  | 15 => .int
  | 16 => .int
  | 17 => .int
  | 18 => .int
  | 19 => .int
  | 20 => .boolean
  | 21 => .array .int
  | 22 => .int
  | 23 => .array .int
  | 24 => .int
  | 25 => .array .int
  | 26 => .array .int
  | 27 => .int
  | 28 => .array .int
  | 29 => .int
  | 30 => .long
  | 31 => .int
  | 32 => .array .int
  | 33 => .array .int
  | 34 => .int
  | _ => .array .int
abbrev wsX80 : List Cond := u_ws RX8 TX8 36
theorem nmX8 : ∀ a, a < 36 → ∀ b, b < 36 → a ≠ b → (TX8 a).2.1 ≠ (TX8 b).2.1 := by decide +kernel
theorem tyX8_ok : ∀ k, k < 36 → parseFieldDescriptor (TX8 k).2.2.1 = some (tyX8 k) := by decide +kernel
abbrev cX8_init : ByteArray := prog_10_method_1_code
def yX8_init : MethodName := ⟨RX8, "<init>", "()V"⟩
abbrev cX8_in : ByteArray := prog_10_method_3_code
def yX8_in : MethodName := ⟨RX8, "in", "(JJJ)Z"⟩
abbrev cX8_copy : ByteArray := prog_10_method_4_code
def yX8_copy : MethodName := ⟨RX8, "copy", "(II)V"⟩
abbrev cX8_isLeg : ByteArray := prog_10_method_5_code
def yX8_isLeg : MethodName := ⟨RX8, "isLeg", "(I)Z"⟩
abbrev cX8_isLender : ByteArray := prog_10_method_6_code
def yX8_isLender : MethodName := ⟨RX8, "isLender", "(I)Z"⟩
abbrev cX8_isLoan : ByteArray := prog_10_method_7_code
def yX8_isLoan : MethodName := ⟨RX8, "isLoan", "(I)Z"⟩
abbrev cX8_feed : ByteArray := prog_10_method_8_code
def yX8_feed : MethodName := ⟨RX8, "feed", "(I)I"⟩
abbrev cX8_letterAt : ByteArray := prog_10_method_9_code
def yX8_letterAt : MethodName := ⟨RX8, "letterAt", "(I)I"⟩
abbrev cX8_here : ByteArray := prog_10_method_10_code
def yX8_here : MethodName := ⟨RX8, "here", "()I"⟩
abbrev cX8_fails : ByteArray := prog_10_method_11_code
def yX8_fails : MethodName := ⟨RX8, "fails", "(II)Z"⟩
abbrev cX8_takes : ByteArray := prog_10_method_12_code
def yX8_takes : MethodName := ⟨RX8, "takes", "(I)Z"⟩
abbrev cX8_takesNumber : ByteArray := prog_10_method_13_code
def yX8_takesNumber : MethodName := ⟨RX8, "takesNumber", "(II)Z"⟩
abbrev cX8_takesShip : ByteArray := prog_10_method_14_code
def yX8_takesShip : MethodName := ⟨RX8, "takesShip", "()Z"⟩
abbrev cX8_takesLeg : ByteArray := prog_10_method_15_code
def yX8_takesLeg : MethodName := ⟨RX8, "takesLeg", "()Z"⟩
abbrev cX8_takesLender : ByteArray := prog_10_method_16_code
def yX8_takesLender : MethodName := ⟨RX8, "takesLender", "()Z"⟩
abbrev cX8_takesClause : ByteArray := prog_10_method_17_code
def yX8_takesClause : MethodName := ⟨RX8, "takesClause", "()Z"⟩
abbrev cX8_voyage : ByteArray := prog_10_method_18_code
def yX8_voyage : MethodName := ⟨RX8, "voyage", "()I"⟩
abbrev cX8_fault : ByteArray := prog_10_method_19_code
def yX8_fault : MethodName := ⟨RX8, "fault", "()I"⟩
abbrev cX8_where : ByteArray := prog_10_method_20_code
def yX8_where : MethodName := ⟨RX8, "where", "()I"⟩
abbrev cX8_dueOf : ByteArray := prog_10_method_21_code
def yX8_dueOf : MethodName := ⟨RX8, "dueOf", "(II)I"⟩
abbrev cX8_paysOf : ByteArray := prog_10_method_22_code
def yX8_paysOf : MethodName := ⟨RX8, "paysOf", "(III)I"⟩
abbrev cX8_paysHome : ByteArray := prog_10_method_23_code
def yX8_paysHome : MethodName := ⟨RX8, "paysHome", "(II)V"⟩
abbrev cX8_owed : ByteArray := prog_10_method_24_code
def yX8_owed : MethodName := ⟨RX8, "owed", "()I"⟩
abbrev cX8_leftNow : ByteArray := prog_10_method_25_code
def yX8_leftNow : MethodName := ⟨RX8, "leftNow", "()I"⟩
abbrev cX8_told : ByteArray := prog_10_method_26_code
def yX8_told : MethodName := ⟨RX8, "told", "(I)I"⟩
abbrev cX8_oddsOf : ByteArray := prog_10_method_27_code
def yX8_oddsOf : MethodName := ⟨RX8, "oddsOf", "(II)I"⟩
abbrev cX8_leg : ByteArray := prog_10_method_28_code
def yX8_leg : MethodName := ⟨RX8, "leg", "(II)I"⟩
abbrev cX8_yetOf : ByteArray := prog_10_method_29_code
def yX8_yetOf : MethodName := ⟨RX8, "yetOf", "(I)I"⟩
abbrev cX8_lender : ByteArray := prog_10_method_30_code
def yX8_lender : MethodName := ⟨RX8, "lender", "(II)I"⟩
abbrev cX8_rankOf : ByteArray := prog_10_method_31_code
def yX8_rankOf : MethodName := ⟨RX8, "rankOf", "(I)I"⟩
abbrev cX8_loan : ByteArray := prog_10_method_32_code
def yX8_loan : MethodName := ⟨RX8, "loan", "(II)I"⟩
abbrev cX8_minds : ByteArray := prog_10_method_33_code
def yX8_minds : MethodName := ⟨RX8, "minds", "()V"⟩
abbrev cX8_undo : ByteArray := prog_10_method_34_code
def yX8_undo : MethodName := ⟨RX8, "undo", "()I"⟩
abbrev cX8_takesLoan : ByteArray := prog_10_method_35_code
def yX8_takesLoan : MethodName := ⟨RX8, "takesLoan", "(IIIZ)V"⟩
abbrev cX8_borrow : ByteArray := prog_10_method_36_code
def yX8_borrow : MethodName := ⟨RX8, "borrow", "(IIZ)I"⟩
abbrev cX8_repair : ByteArray := prog_10_method_37_code
def yX8_repair : MethodName := ⟨RX8, "repair", "(I)I"⟩
abbrev cX8_sails : ByteArray := prog_10_method_38_code
def yX8_sails : MethodName := ⟨RX8, "sails", "(Z)V"⟩
abbrev cX8_sail : ByteArray := prog_10_method_39_code
def yX8_sail : MethodName := ⟨RX8, "sail", "(Z)I"⟩
abbrev cX8_draw : ByteArray := prog_10_method_40_code
def yX8_draw : MethodName := ⟨RX8, "draw", "(I)I"⟩
abbrev cX8_drift : ByteArray := prog_10_method_41_code
def yX8_drift : MethodName := ⟨RX8, "drift", "(I)I"⟩
abbrev cX8_isGone : ByteArray := prog_10_method_42_code
def yX8_isGone : MethodName := ⟨RX8, "isGone", "()Z"⟩
abbrev cX8_through : ByteArray := prog_10_method_43_code
def yX8_through : MethodName := ⟨RX8, "through", "(III)J"⟩
abbrev cX8_homeNow : ByteArray := prog_10_method_44_code
def yX8_homeNow : MethodName := ⟨RX8, "homeNow", "()J"⟩
abbrev cX8_comesHome : ByteArray := prog_10_method_45_code
def yX8_comesHome : MethodName := ⟨RX8, "comesHome", "()I"⟩
abbrev cX8_rateNow : ByteArray := prog_10_method_46_code
def yX8_rateNow : MethodName := ⟨RX8, "rateNow", "()I"⟩
abbrev cX8_rate : ByteArray := prog_10_method_47_code
def yX8_rate : MethodName := ⟨RX8, "rate", "()I"⟩
abbrev cX8_willing : ByteArray := prog_10_method_48_code
def yX8_willing : MethodName := ⟨RX8, "willing", "()I"⟩
abbrev cX8_paid : ByteArray := prog_10_method_49_code
def yX8_paid : MethodName := ⟨RX8, "paid", "(I)I"⟩
abbrev cX8_hurt : ByteArray := prog_10_method_50_code
def yX8_hurt : MethodName := ⟨RX8, "hurt", "(IIZ)I"⟩
abbrev cX8_share : ByteArray := prog_10_method_51_code
def yX8_share : MethodName := ⟨RX8, "share", "(II)I"⟩
abbrev cX8_findPlan : ByteArray := prog_10_method_52_code
def yX8_findPlan : MethodName := ⟨RX8, "findPlan", "()V"⟩
abbrev cX8_plan : ByteArray := prog_10_method_53_code
def yX8_plan : MethodName := ⟨RX8, "plan", "(I)I"⟩
abbrev cX8_belief : ByteArray := prog_10_method_54_code
def yX8_belief : MethodName := ⟨RX8, "belief", "(II)I"⟩
abbrev cX8_need : ByteArray := prog_10_method_55_code
def yX8_need : MethodName := ⟨RX8, "need", "(II)I"⟩
abbrev cX8_tell : ByteArray := prog_10_method_56_code
def yX8_tell : MethodName := ⟨RX8, "tell", "(II)I"⟩
abbrev cX8_worth : ByteArray := prog_10_method_57_code
def yX8_worth : MethodName := ⟨RX8, "worth", "(I)I"⟩
abbrev cX8_write : ByteArray := prog_10_method_58_code
def yX8_write : MethodName := ⟨RX8, "write", "(I)I"⟩
abbrev cX8_tear : ByteArray := prog_10_method_59_code
def yX8_tear : MethodName := ⟨RX8, "tear", "()I"⟩
abbrev cX8_judge : ByteArray := prog_10_method_60_code
def yX8_judge : MethodName := ⟨RX8, "judge", "()I"⟩
abbrev cX8_seed : ByteArray := prog_10_method_61_code
def yX8_seed : MethodName := ⟨RX8, "seed", "(I)I"⟩
abbrev cX8_keep : ByteArray := prog_10_method_62_code
def yX8_keep : MethodName := ⟨RX8, "keep", "(I)I"⟩
abbrev cX8_goBack : ByteArray := prog_10_method_63_code
def yX8_goBack : MethodName := ⟨RX8, "goBack", "(I)I"⟩
def RJ9 : String := "java/lang/Math"
def TJ9 : u_T := fun k => match k with
  | _ => ("", "", "", false)
def tyJ9 : Nat → FieldType := fun k => match k with
  | _ => .int
abbrev wsJ90 : List Cond := u_ws RJ9 TJ9 0
theorem nmJ9 : ∀ a, a < 0 → ∀ b, b < 0 → a ≠ b → (TJ9 a).2.1 ≠ (TJ9 b).2.1 := by decide +kernel
theorem tyJ9_ok : ∀ k, k < 0 → parseFieldDescriptor (TJ9 k).2.2.1 = some (tyJ9 k) := by decide +kernel
abbrev cJ9_max_7cf53 : ByteArray := prog_11_method_65_code
def yJ9_max_7cf53 : MethodName := ⟨RJ9, "max", "(II)I"⟩
abbrev cJ9_min_7cf53 : ByteArray := prog_11_method_69_code
def yJ9_min_7cf53 : MethodName := ⟨RJ9, "min", "(II)I"⟩
def RJ10 : String := "java/lang/System"
def TJ10 : u_T := fun k => match k with
  | _ => ("", "", "", false)
def tyJ10 : Nat → FieldType := fun k => match k with
  | _ => .int
abbrev wsJ100 : List Cond := u_ws RJ10 TJ10 0
theorem nmJ10 : ∀ a, a < 0 → ∀ b, b < 0 → a ≠ b → (TJ10 a).2.1 ≠ (TJ10 b).2.1 := by decide +kernel
theorem tyJ10_ok : ∀ k, k < 0 → parseFieldDescriptor (TJ10 k).2.2.1 = some (tyJ10 k) := by decide +kernel
def RL : String := "BottomryLoansLaw"
abbrev cL_law : ByteArray := code
def yL_law : MethodName := ⟨RL, "law", "([I)Z"⟩
abbrev vwCl : List vw_C := [(RX0, TX0, 3), (RX1, TX1, 3), (RX2, TX2, 7), (RX3, TX3, 5), (RX4, TX4, 5), (RX5, TX5, 4), (RX6, TX6, 3), (RX7, TX7, 12), (RX8, TX8, 36)]
end
section
theorem dX0_init_0 : decode cX0_init 0 = .ok (.aload_n 0, 1) := by decide +kernel
theorem dX0_init_1 : decode cX0_init 1 = .ok (.invokespecial 1, 3) := by decide +kernel
theorem dX0_init_4 : decode cX0_init 4 = .ok (.aload_n 0, 1) := by decide +kernel
theorem dX0_init_5 : decode cX0_init 5 = .ok (.new 7, 3) := by decide +kernel
theorem dX0_init_8 : decode cX0_init 8 = .ok (.dup, 1) := by decide +kernel
theorem dX0_init_9 : decode cX0_init 9 = .ok (.invokespecial 9, 3) := by decide +kernel
theorem dX0_init_12 : decode cX0_init 12 = .ok (.putfield 10, 3) := by decide +kernel
theorem dX0_init_15 : decode cX0_init 15 = .ok (.aload_n 0, 1) := by decide +kernel
theorem dX0_init_16 : decode cX0_init 16 = .ok (.iconst 0, 1) := by decide +kernel
theorem dX0_init_17 : decode cX0_init 17 = .ok (.putfield 16, 3) := by decide +kernel
theorem dX0_init_20 : decode cX0_init 20 = .ok (.aload_n 0, 1) := by decide +kernel
theorem dX0_init_21 : decode cX0_init 21 = .ok (.iconst 0, 1) := by decide +kernel
theorem dX0_init_22 : decode cX0_init 22 = .ok (.putfield 20, 3) := by decide +kernel
theorem dX0_init_25 : decode cX0_init 25 = .ok (.return_, 1) := by decide +kernel
theorem dX1_init_0 : decode cX1_init 0 = .ok (.aload_n 0, 1) := by decide +kernel
theorem dX1_init_1 : decode cX1_init 1 = .ok (.invokespecial 3, 3) := by decide +kernel
theorem dX1_init_4 : decode cX1_init 4 = .ok (.aload_n 0, 1) := by decide +kernel
theorem dX1_init_5 : decode cX1_init 5 = .ok (.bipush 20, 2) := by decide +kernel
theorem dX1_init_7 : decode cX1_init 7 = .ok (.anewarray 9, 3) := by decide +kernel
theorem dX1_init_10 : decode cX1_init 10 = .ok (.putfield 11, 3) := by decide +kernel
theorem dX1_init_13 : decode cX1_init 13 = .ok (.aload_n 0, 1) := by decide +kernel
theorem dX1_init_14 : decode cX1_init 14 = .ok (.iconst 0, 1) := by decide +kernel
theorem dX1_init_15 : decode cX1_init 15 = .ok (.putfield 17, 3) := by decide +kernel
theorem dX1_init_18 : decode cX1_init 18 = .ok (.aload_n 0, 1) := by decide +kernel
theorem dX1_init_19 : decode cX1_init 19 = .ok (.iconst 0, 1) := by decide +kernel
theorem dX1_init_20 : decode cX1_init 20 = .ok (.putfield 21, 3) := by decide +kernel
theorem dX1_init_23 : decode cX1_init 23 = .ok (.iconst 0, 1) := by decide +kernel
theorem dX1_init_24 : decode cX1_init 24 = .ok (.istore_n 1, 1) := by decide +kernel
theorem dX1_init_25 : decode cX1_init 25 = .ok (.iload_n 1, 1) := by decide +kernel
theorem dX1_init_26 : decode cX1_init 26 = .ok (.aload_n 0, 1) := by decide +kernel
theorem dX1_init_27 : decode cX1_init 27 = .ok (.getfield 11, 3) := by decide +kernel
theorem dX1_init_30 : decode cX1_init 30 = .ok (.arraylength, 1) := by decide +kernel
theorem dX1_init_31 : decode cX1_init 31 = .ok (.if_icmp .ge 22, 3) := by decide +kernel
theorem dX1_init_34 : decode cX1_init 34 = .ok (.aload_n 0, 1) := by decide +kernel
theorem dX1_init_35 : decode cX1_init 35 = .ok (.getfield 11, 3) := by decide +kernel
theorem dX1_init_38 : decode cX1_init 38 = .ok (.iload_n 1, 1) := by decide +kernel
theorem dX1_init_39 : decode cX1_init 39 = .ok (.new 9, 3) := by decide +kernel
theorem dX1_init_42 : decode cX1_init 42 = .ok (.dup, 1) := by decide +kernel
theorem dX1_init_43 : decode cX1_init 43 = .ok (.invokespecial 24, 3) := by decide +kernel
theorem dX1_init_46 : decode cX1_init 46 = .ok (.aastore, 1) := by decide +kernel
theorem dX1_init_47 : decode cX1_init 47 = .ok (.iinc 1 1, 3) := by decide +kernel
theorem dX1_init_50 : decode cX1_init 50 = .ok (.goto (-25), 3) := by decide +kernel
theorem dX1_init_53 : decode cX1_init 53 = .ok (.return_, 1) := by decide +kernel
theorem dX1_acts_0 : decode cX1_acts 0 = .ok (.aload_n 0, 1) := by decide +kernel
theorem dX1_acts_1 : decode cX1_acts 1 = .ok (.getfield 21, 3) := by decide +kernel
theorem dX1_acts_4 : decode cX1_acts 4 = .ok (.ireturn, 1) := by decide +kernel
theorem dX1_clear_0 : decode cX1_clear 0 = .ok (.aload_n 0, 1) := by decide +kernel
theorem dX1_clear_1 : decode cX1_clear 1 = .ok (.iconst 0, 1) := by decide +kernel
theorem dX1_clear_2 : decode cX1_clear 2 = .ok (.putfield 21, 3) := by decide +kernel
theorem dX1_clear_5 : decode cX1_clear 5 = .ok (.return_, 1) := by decide +kernel
theorem dX1_put_0 : decode cX1_put 0 = .ok (.aload_n 0, 1) := by decide +kernel
theorem dX1_put_1 : decode cX1_put 1 = .ok (.aload_n 0, 1) := by decide +kernel
theorem dX1_put_2 : decode cX1_put 2 = .ok (.getfield 17, 3) := by decide +kernel
theorem dX1_put_5 : decode cX1_put 5 = .ok (.invokevirtual 25, 3) := by decide +kernel
theorem dX1_put_8 : decode cX1_put 8 = .ok (.astore_n 2, 1) := by decide +kernel
theorem dX1_put_9 : decode cX1_put 9 = .ok (.aload_n 2, 1) := by decide +kernel
theorem dX1_put_10 : decode cX1_put 10 = .ok (.ifnull 48, 3) := by decide +kernel
theorem dX1_put_13 : decode cX1_put 13 = .ok (.aload_n 2, 1) := by decide +kernel
theorem dX1_put_14 : decode cX1_put 14 = .ok (.aload_n 1, 1) := by decide +kernel
theorem dX1_put_15 : decode cX1_put 15 = .ok (.invokevirtual 29, 3) := by decide +kernel
theorem dX1_put_18 : decode cX1_put 18 = .ok (.aload_n 0, 1) := by decide +kernel
theorem dX1_put_19 : decode cX1_put 19 = .ok (.aload_n 0, 1) := by decide +kernel
theorem dX1_put_20 : decode cX1_put 20 = .ok (.getfield 17, 3) := by decide +kernel
theorem dX1_put_23 : decode cX1_put 23 = .ok (.iconst 1, 1) := by decide +kernel
theorem dX1_put_24 : decode cX1_put 24 = .ok (.iadd, 1) := by decide +kernel
theorem dX1_put_25 : decode cX1_put 25 = .ok (.bipush 20, 2) := by decide +kernel
theorem dX1_put_27 : decode cX1_put 27 = .ok (.if_icmp .ge 12, 3) := by decide +kernel
theorem dX1_put_30 : decode cX1_put 30 = .ok (.aload_n 0, 1) := by decide +kernel
theorem dX1_put_31 : decode cX1_put 31 = .ok (.getfield 17, 3) := by decide +kernel
theorem dX1_put_34 : decode cX1_put 34 = .ok (.iconst 1, 1) := by decide +kernel
theorem dX1_put_35 : decode cX1_put 35 = .ok (.iadd, 1) := by decide +kernel
theorem dX1_put_36 : decode cX1_put 36 = .ok (.goto 4, 3) := by decide +kernel
theorem dX1_put_39 : decode cX1_put 39 = .ok (.iconst 0, 1) := by decide +kernel
theorem dX1_put_40 : decode cX1_put 40 = .ok (.putfield 17, 3) := by decide +kernel
theorem dX1_put_43 : decode cX1_put 43 = .ok (.aload_n 0, 1) := by decide +kernel
theorem dX1_put_44 : decode cX1_put 44 = .ok (.bipush 20, 2) := by decide +kernel
theorem dX1_put_46 : decode cX1_put 46 = .ok (.aload_n 0, 1) := by decide +kernel
theorem dX1_put_47 : decode cX1_put 47 = .ok (.getfield 21, 3) := by decide +kernel
theorem dX1_put_50 : decode cX1_put 50 = .ok (.iconst 1, 1) := by decide +kernel
theorem dX1_put_51 : decode cX1_put 51 = .ok (.iadd, 1) := by decide +kernel
theorem dX1_put_52 : decode cX1_put 52 = .ok (.invokestatic 33, 3) := by decide +kernel
theorem dX1_put_55 : decode cX1_put 55 = .ok (.putfield 21, 3) := by decide +kernel
theorem dX1_put_58 : decode cX1_put 58 = .ok (.return_, 1) := by decide +kernel
theorem dX1_takeBack_0 : decode cX1_takeBack 0 = .ok (.aload_n 0, 1) := by decide +kernel
theorem dX1_takeBack_1 : decode cX1_takeBack 1 = .ok (.getfield 17, 3) := by decide +kernel
theorem dX1_takeBack_4 : decode cX1_takeBack 4 = .ok (.ifCond .le 12, 3) := by decide +kernel
theorem dX1_takeBack_7 : decode cX1_takeBack 7 = .ok (.aload_n 0, 1) := by decide +kernel
theorem dX1_takeBack_8 : decode cX1_takeBack 8 = .ok (.getfield 17, 3) := by decide +kernel
theorem dX1_takeBack_11 : decode cX1_takeBack 11 = .ok (.iconst 1, 1) := by decide +kernel
theorem dX1_takeBack_12 : decode cX1_takeBack 12 = .ok (.isub, 1) := by decide +kernel
theorem dX1_takeBack_13 : decode cX1_takeBack 13 = .ok (.goto 5, 3) := by decide +kernel
theorem dX1_takeBack_16 : decode cX1_takeBack 16 = .ok (.bipush 19, 2) := by decide +kernel
theorem dX1_takeBack_18 : decode cX1_takeBack 18 = .ok (.istore_n 2, 1) := by decide +kernel
theorem dX1_takeBack_19 : decode cX1_takeBack 19 = .ok (.aload_n 0, 1) := by decide +kernel
theorem dX1_takeBack_20 : decode cX1_takeBack 20 = .ok (.iload_n 2, 1) := by decide +kernel
theorem dX1_takeBack_21 : decode cX1_takeBack 21 = .ok (.invokevirtual 25, 3) := by decide +kernel
theorem dX1_takeBack_24 : decode cX1_takeBack 24 = .ok (.astore_n 3, 1) := by decide +kernel
theorem dX1_takeBack_25 : decode cX1_takeBack 25 = .ok (.aload_n 3, 1) := by decide +kernel
theorem dX1_takeBack_26 : decode cX1_takeBack 26 = .ok (.ifnull 30, 3) := by decide +kernel
theorem dX1_takeBack_29 : decode cX1_takeBack 29 = .ok (.aload_n 0, 1) := by decide +kernel
theorem dX1_takeBack_30 : decode cX1_takeBack 30 = .ok (.getfield 21, 3) := by decide +kernel
theorem dX1_takeBack_33 : decode cX1_takeBack 33 = .ok (.ifCond .le 23, 3) := by decide +kernel
theorem dX1_takeBack_36 : decode cX1_takeBack 36 = .ok (.aload_n 1, 1) := by decide +kernel
theorem dX1_takeBack_37 : decode cX1_takeBack 37 = .ok (.aload_n 3, 1) := by decide +kernel
theorem dX1_takeBack_38 : decode cX1_takeBack 38 = .ok (.invokevirtual 29, 3) := by decide +kernel
theorem dX1_takeBack_41 : decode cX1_takeBack 41 = .ok (.aload_n 0, 1) := by decide +kernel
theorem dX1_takeBack_42 : decode cX1_takeBack 42 = .ok (.iload_n 2, 1) := by decide +kernel
theorem dX1_takeBack_43 : decode cX1_takeBack 43 = .ok (.putfield 17, 3) := by decide +kernel
theorem dX1_takeBack_46 : decode cX1_takeBack 46 = .ok (.aload_n 0, 1) := by decide +kernel
theorem dX1_takeBack_47 : decode cX1_takeBack 47 = .ok (.dup, 1) := by decide +kernel
theorem dX1_takeBack_48 : decode cX1_takeBack 48 = .ok (.getfield 21, 3) := by decide +kernel
theorem dX1_takeBack_51 : decode cX1_takeBack 51 = .ok (.iconst 1, 1) := by decide +kernel
theorem dX1_takeBack_52 : decode cX1_takeBack 52 = .ok (.isub, 1) := by decide +kernel
theorem dX1_takeBack_53 : decode cX1_takeBack 53 = .ok (.putfield 21, 3) := by decide +kernel
theorem dX1_takeBack_56 : decode cX1_takeBack 56 = .ok (.return_, 1) := by decide +kernel
theorem dX1_slotOf_0 : decode cX1_slotOf 0 = .ok (.iload_n 1, 1) := by decide +kernel
theorem dX1_slotOf_1 : decode cX1_slotOf 1 = .ok (.ifCond .lt 21, 3) := by decide +kernel
theorem dX1_slotOf_4 : decode cX1_slotOf 4 = .ok (.iload_n 1, 1) := by decide +kernel
theorem dX1_slotOf_5 : decode cX1_slotOf 5 = .ok (.aload_n 0, 1) := by decide +kernel
theorem dX1_slotOf_6 : decode cX1_slotOf 6 = .ok (.getfield 11, 3) := by decide +kernel
theorem dX1_slotOf_9 : decode cX1_slotOf 9 = .ok (.arraylength, 1) := by decide +kernel
theorem dX1_slotOf_10 : decode cX1_slotOf 10 = .ok (.if_icmp .ge 12, 3) := by decide +kernel
theorem dX1_slotOf_13 : decode cX1_slotOf 13 = .ok (.aload_n 0, 1) := by decide +kernel
theorem dX1_slotOf_14 : decode cX1_slotOf 14 = .ok (.getfield 11, 3) := by decide +kernel
theorem dX1_slotOf_17 : decode cX1_slotOf 17 = .ok (.iload_n 1, 1) := by decide +kernel
theorem dX1_slotOf_18 : decode cX1_slotOf 18 = .ok (.aaload, 1) := by decide +kernel
theorem dX1_slotOf_19 : decode cX1_slotOf 19 = .ok (.goto 4, 3) := by decide +kernel
theorem dX1_slotOf_22 : decode cX1_slotOf 22 = .ok (.aconst_null, 1) := by decide +kernel
theorem dX1_slotOf_23 : decode cX1_slotOf 23 = .ok (.areturn, 1) := by decide +kernel
theorem dX2_init_0 : decode cX2_init 0 = .ok (.aload_n 0, 1) := by decide +kernel
theorem dX2_init_1 : decode cX2_init 1 = .ok (.invokespecial 3, 3) := by decide +kernel
theorem dX2_init_4 : decode cX2_init 4 = .ok (.aload_n 0, 1) := by decide +kernel
theorem dX2_init_5 : decode cX2_init 5 = .ok (.new 9, 3) := by decide +kernel
theorem dX2_init_8 : decode cX2_init 8 = .ok (.dup, 1) := by decide +kernel
theorem dX2_init_9 : decode cX2_init 9 = .ok (.iconst 1, 1) := by decide +kernel
theorem dX2_init_10 : decode cX2_init 10 = .ok (.bipush 7, 2) := by decide +kernel
theorem dX2_init_12 : decode cX2_init 12 = .ok (.invokespecial 11, 3) := by decide +kernel
theorem dX2_init_15 : decode cX2_init 15 = .ok (.putfield 14, 3) := by decide +kernel
theorem dX2_init_18 : decode cX2_init 18 = .ok (.aload_n 0, 1) := by decide +kernel
theorem dX2_init_19 : decode cX2_init 19 = .ok (.new 9, 3) := by decide +kernel
theorem dX2_init_22 : decode cX2_init 22 = .ok (.dup, 1) := by decide +kernel
theorem dX2_init_23 : decode cX2_init 23 = .ok (.iconst 1, 1) := by decide +kernel
theorem dX2_init_24 : decode cX2_init 24 = .ok (.bipush 7, 2) := by decide +kernel
theorem dX2_init_26 : decode cX2_init 26 = .ok (.invokespecial 11, 3) := by decide +kernel
theorem dX2_init_29 : decode cX2_init 29 = .ok (.putfield 20, 3) := by decide +kernel
theorem dX2_init_32 : decode cX2_init 32 = .ok (.aload_n 0, 1) := by decide +kernel
theorem dX2_init_33 : decode cX2_init 33 = .ok (.iconst 0, 1) := by decide +kernel
theorem dX2_init_34 : decode cX2_init 34 = .ok (.putfield 23, 3) := by decide +kernel
theorem dX2_init_37 : decode cX2_init 37 = .ok (.aload_n 0, 1) := by decide +kernel
theorem dX2_init_38 : decode cX2_init 38 = .ok (.iconst 0, 1) := by decide +kernel
theorem dX2_init_39 : decode cX2_init 39 = .ok (.putfield 27, 3) := by decide +kernel
theorem dX2_init_42 : decode cX2_init 42 = .ok (.aload_n 0, 1) := by decide +kernel
theorem dX2_init_43 : decode cX2_init 43 = .ok (.ldc2_w 30, 3) := by decide +kernel
theorem dX2_init_46 : decode cX2_init 46 = .ok (.putfield 32, 3) := by decide +kernel
theorem dX2_init_49 : decode cX2_init 49 = .ok (.aload_n 0, 1) := by decide +kernel
theorem dX2_init_50 : decode cX2_init 50 = .ok (.iconst 0, 1) := by decide +kernel
theorem dX2_init_51 : decode cX2_init 51 = .ok (.putfield 36, 3) := by decide +kernel
theorem dX2_init_54 : decode cX2_init 54 = .ok (.aload_n 0, 1) := by decide +kernel
theorem dX2_init_55 : decode cX2_init 55 = .ok (.aload_n 1, 1) := by decide +kernel
theorem dX2_init_56 : decode cX2_init 56 = .ok (.putfield 40, 3) := by decide +kernel
theorem dX2_init_59 : decode cX2_init 59 = .ok (.return_, 1) := by decide +kernel
theorem dX2_forget_0 : decode cX2_forget 0 = .ok (.aload_n 0, 1) := by decide +kernel
theorem dX2_forget_1 : decode cX2_forget 1 = .ok (.iconst 0, 1) := by decide +kernel
theorem dX2_forget_2 : decode cX2_forget 2 = .ok (.putfield 36, 3) := by decide +kernel
theorem dX2_forget_5 : decode cX2_forget 5 = .ok (.return_, 1) := by decide +kernel
theorem dX2_isDone_0 : decode cX2_isDone 0 = .ok (.aload_n 0, 1) := by decide +kernel
theorem dX2_isDone_1 : decode cX2_isDone 1 = .ok (.getfield 36, 3) := by decide +kernel
theorem dX2_isDone_4 : decode cX2_isDone 4 = .ok (.ireturn, 1) := by decide +kernel
theorem dX2_howMuch_0 : decode cX2_howMuch 0 = .ok (.aload_n 0, 1) := by decide +kernel
theorem dX2_howMuch_1 : decode cX2_howMuch 1 = .ok (.getfield 32, 3) := by decide +kernel
theorem dX2_howMuch_4 : decode cX2_howMuch 4 = .ok (.l2i, 1) := by decide +kernel
theorem dX2_howMuch_5 : decode cX2_howMuch 5 = .ok (.ireturn, 1) := by decide +kernel
theorem dX2_pointsIn_0 : decode cX2_pointsIn 0 = .ok (.aload_n 0, 1) := by decide +kernel
theorem dX2_pointsIn_1 : decode cX2_pointsIn 1 = .ok (.getfield 20, 3) := by decide +kernel
theorem dX2_pointsIn_4 : decode cX2_pointsIn 4 = .ok (.iload_n 1, 1) := by decide +kernel
theorem dX2_pointsIn_5 : decode cX2_pointsIn 5 = .ok (.invokevirtual 44, 3) := by decide +kernel
theorem dX2_pointsIn_8 : decode cX2_pointsIn 8 = .ok (.ifCond .eq 15, 3) := by decide +kernel
theorem dX2_pointsIn_11 : decode cX2_pointsIn 11 = .ok (.aload_n 0, 1) := by decide +kernel
theorem dX2_pointsIn_12 : decode cX2_pointsIn 12 = .ok (.getfield 20, 3) := by decide +kernel
theorem dX2_pointsIn_15 : decode cX2_pointsIn 15 = .ok (.iload_n 1, 1) := by decide +kernel
theorem dX2_pointsIn_16 : decode cX2_pointsIn 16 = .ok (.iconst 0, 1) := by decide +kernel
theorem dX2_pointsIn_17 : decode cX2_pointsIn 17 = .ok (.invokevirtual 48, 3) := by decide +kernel
theorem dX2_pointsIn_20 : decode cX2_pointsIn 20 = .ok (.goto 4, 3) := by decide +kernel
theorem dX2_pointsIn_23 : decode cX2_pointsIn 23 = .ok (.iconst (-1), 1) := by decide +kernel
theorem dX2_pointsIn_24 : decode cX2_pointsIn 24 = .ok (.ireturn, 1) := by decide +kernel
theorem dX2_findBest_0 : decode cX2_findBest 0 = .ok (.aload_n 0, 1) := by decide +kernel
theorem dX2_findBest_1 : decode cX2_findBest 1 = .ok (.aload_n 1, 1) := by decide +kernel
theorem dX2_findBest_2 : decode cX2_findBest 2 = .ok (.getfield 52, 3) := by decide +kernel
theorem dX2_findBest_5 : decode cX2_findBest 5 = .ok (.putfield 23, 3) := by decide +kernel
theorem dX2_findBest_8 : decode cX2_findBest 8 = .ok (.aload_n 0, 1) := by decide +kernel
theorem dX2_findBest_9 : decode cX2_findBest 9 = .ok (.iload_n 2, 1) := by decide +kernel
theorem dX2_findBest_10 : decode cX2_findBest 10 = .ok (.putfield 27, 3) := by decide +kernel
theorem dX2_findBest_13 : decode cX2_findBest 13 = .ok (.aload_n 0, 1) := by decide +kernel
theorem dX2_findBest_14 : decode cX2_findBest 14 = .ok (.ldc2_w 30, 3) := by decide +kernel
theorem dX2_findBest_17 : decode cX2_findBest 17 = .ok (.putfield 32, 3) := by decide +kernel
theorem dX2_findBest_20 : decode cX2_findBest 20 = .ok (.aload_n 0, 1) := by decide +kernel
theorem dX2_findBest_21 : decode cX2_findBest 21 = .ok (.getfield 14, 3) := by decide +kernel
theorem dX2_findBest_24 : decode cX2_findBest 24 = .ok (.invokevirtual 57, 3) := by decide +kernel
theorem dX2_findBest_27 : decode cX2_findBest 27 = .ok (.aload_n 0, 1) := by decide +kernel
theorem dX2_findBest_28 : decode cX2_findBest 28 = .ok (.getfield 23, 3) := by decide +kernel
theorem dX2_findBest_31 : decode cX2_findBest 31 = .ok (.istore_n 3, 1) := by decide +kernel
theorem dX2_findBest_32 : decode cX2_findBest 32 = .ok (.iload_n 3, 1) := by decide +kernel
theorem dX2_findBest_33 : decode cX2_findBest 33 = .ok (.aload_n 0, 1) := by decide +kernel
theorem dX2_findBest_34 : decode cX2_findBest 34 = .ok (.getfield 40, 3) := by decide +kernel
theorem dX2_findBest_37 : decode cX2_findBest 37 = .ok (.getfield 60, 3) := by decide +kernel
theorem dX2_findBest_40 : decode cX2_findBest 40 = .ok (.invokevirtual 65, 3) := by decide +kernel
theorem dX2_findBest_43 : decode cX2_findBest 43 = .ok (.if_icmp .ge 17, 3) := by decide +kernel
theorem dX2_findBest_46 : decode cX2_findBest 46 = .ok (.aload_n 0, 1) := by decide +kernel
theorem dX2_findBest_47 : decode cX2_findBest 47 = .ok (.getfield 14, 3) := by decide +kernel
theorem dX2_findBest_50 : decode cX2_findBest 50 = .ok (.iconst 0, 1) := by decide +kernel
theorem dX2_findBest_51 : decode cX2_findBest 51 = .ok (.invokevirtual 69, 3) := by decide +kernel
theorem dX2_findBest_54 : decode cX2_findBest 54 = .ok (.iinc 3 1, 3) := by decide +kernel
theorem dX2_findBest_57 : decode cX2_findBest 57 = .ok (.goto (-25), 3) := by decide +kernel
theorem dX2_findBest_60 : decode cX2_findBest 60 = .ok (.aload_n 0, 1) := by decide +kernel
theorem dX2_findBest_61 : decode cX2_findBest 61 = .ok (.iconst 0, 1) := by decide +kernel
theorem dX2_findBest_62 : decode cX2_findBest 62 = .ok (.aload_n 1, 1) := by decide +kernel
theorem dX2_findBest_63 : decode cX2_findBest 63 = .ok (.getfield 73, 3) := by decide +kernel
theorem dX2_findBest_66 : decode cX2_findBest 66 = .ok (.aload_n 1, 1) := by decide +kernel
theorem dX2_findBest_67 : decode cX2_findBest 67 = .ok (.getfield 76, 3) := by decide +kernel
theorem dX2_findBest_70 : decode cX2_findBest 70 = .ok (.ldc 79, 2) := by decide +kernel
theorem dX2_findBest_72 : decode cX2_findBest 72 = .ok (.invokevirtual 80, 3) := by decide +kernel
theorem dX2_findBest_75 : decode cX2_findBest 75 = .ok (.aload_n 0, 1) := by decide +kernel
theorem dX2_findBest_76 : decode cX2_findBest 76 = .ok (.iconst 1, 1) := by decide +kernel
theorem dX2_findBest_77 : decode cX2_findBest 77 = .ok (.putfield 36, 3) := by decide +kernel
theorem dX2_findBest_80 : decode cX2_findBest 80 = .ok (.return_, 1) := by decide +kernel
theorem dX2_tryFrom_0 : decode cX2_tryFrom 0 = .ok (.iload 4, 2) := by decide +kernel
theorem dX2_tryFrom_2 : decode cX2_tryFrom 2 = .ok (.i2l, 1) := by decide +kernel
theorem dX2_tryFrom_3 : decode cX2_tryFrom 3 = .ok (.iconst 0, 1) := by decide +kernel
theorem dX2_tryFrom_4 : decode cX2_tryFrom 4 = .ok (.aload_n 0, 1) := by decide +kernel
theorem dX2_tryFrom_5 : decode cX2_tryFrom 5 = .ok (.getfield 27, 3) := by decide +kernel
theorem dX2_tryFrom_8 : decode cX2_tryFrom 8 = .ok (.iload_n 3, 1) := by decide +kernel
theorem dX2_tryFrom_9 : decode cX2_tryFrom 9 = .ok (.iadd, 1) := by decide +kernel
theorem dX2_tryFrom_10 : decode cX2_tryFrom 10 = .ok (.invokestatic 84, 3) := by decide +kernel
theorem dX2_tryFrom_13 : decode cX2_tryFrom 13 = .ok (.i2l, 1) := by decide +kernel
theorem dX2_tryFrom_14 : decode cX2_tryFrom 14 = .ok (.lmul, 1) := by decide +kernel
theorem dX2_tryFrom_15 : decode cX2_tryFrom 15 = .ok (.ldc2_w 89, 3) := by decide +kernel
theorem dX2_tryFrom_18 : decode cX2_tryFrom 18 = .ok (.ldiv, 1) := by decide +kernel
theorem dX2_tryFrom_19 : decode cX2_tryFrom 19 = .ok (.lstore 5, 2) := by decide +kernel
theorem dX2_tryFrom_21 : decode cX2_tryFrom 21 = .ok (.lload 5, 2) := by decide +kernel
theorem dX2_tryFrom_23 : decode cX2_tryFrom 23 = .ok (.aload_n 0, 1) := by decide +kernel
theorem dX2_tryFrom_24 : decode cX2_tryFrom 24 = .ok (.getfield 32, 3) := by decide +kernel
theorem dX2_tryFrom_27 : decode cX2_tryFrom 27 = .ok (.lcmp, 1) := by decide +kernel
theorem dX2_tryFrom_28 : decode cX2_tryFrom 28 = .ok (.ifCond .gt 4, 3) := by decide +kernel
theorem dX2_tryFrom_31 : decode cX2_tryFrom 31 = .ok (.return_, 1) := by decide +kernel
theorem dX2_tryFrom_32 : decode cX2_tryFrom 32 = .ok (.iload_n 1, 1) := by decide +kernel
theorem dX2_tryFrom_33 : decode cX2_tryFrom 33 = .ok (.aload_n 0, 1) := by decide +kernel
theorem dX2_tryFrom_34 : decode cX2_tryFrom 34 = .ok (.getfield 14, 3) := by decide +kernel
theorem dX2_tryFrom_37 : decode cX2_tryFrom 37 = .ok (.invokevirtual 65, 3) := by decide +kernel
theorem dX2_tryFrom_40 : decode cX2_tryFrom 40 = .ok (.if_icmp .lt 21, 3) := by decide +kernel
theorem dX2_tryFrom_43 : decode cX2_tryFrom 43 = .ok (.aload_n 0, 1) := by decide +kernel
theorem dX2_tryFrom_44 : decode cX2_tryFrom 44 = .ok (.lload 5, 2) := by decide +kernel
theorem dX2_tryFrom_46 : decode cX2_tryFrom 46 = .ok (.putfield 32, 3) := by decide +kernel
theorem dX2_tryFrom_49 : decode cX2_tryFrom 49 = .ok (.aload_n 0, 1) := by decide +kernel
theorem dX2_tryFrom_50 : decode cX2_tryFrom 50 = .ok (.getfield 20, 3) := by decide +kernel
theorem dX2_tryFrom_53 : decode cX2_tryFrom 53 = .ok (.aload_n 0, 1) := by decide +kernel
theorem dX2_tryFrom_54 : decode cX2_tryFrom 54 = .ok (.getfield 14, 3) := by decide +kernel
theorem dX2_tryFrom_57 : decode cX2_tryFrom 57 = .ok (.invokevirtual 91, 3) := by decide +kernel
theorem dX2_tryFrom_60 : decode cX2_tryFrom 60 = .ok (.return_, 1) := by decide +kernel
theorem dX2_tryFrom_61 : decode cX2_tryFrom 61 = .ok (.iconst 0, 1) := by decide +kernel
theorem dX2_tryFrom_62 : decode cX2_tryFrom 62 = .ok (.istore 7, 2) := by decide +kernel
theorem dX2_tryFrom_64 : decode cX2_tryFrom 64 = .ok (.iload 7, 2) := by decide +kernel
theorem dX2_tryFrom_66 : decode cX2_tryFrom 66 = .ok (.iconst 2, 1) := by decide +kernel
theorem dX2_tryFrom_67 : decode cX2_tryFrom 67 = .ok (.if_icmp .gt 23, 3) := by decide +kernel
theorem dX2_tryFrom_70 : decode cX2_tryFrom 70 = .ok (.aload_n 0, 1) := by decide +kernel
theorem dX2_tryFrom_71 : decode cX2_tryFrom 71 = .ok (.iload_n 1, 1) := by decide +kernel
theorem dX2_tryFrom_72 : decode cX2_tryFrom 72 = .ok (.iload 7, 2) := by decide +kernel
theorem dX2_tryFrom_74 : decode cX2_tryFrom 74 = .ok (.iload_n 2, 1) := by decide +kernel
theorem dX2_tryFrom_75 : decode cX2_tryFrom 75 = .ok (.iload 7, 2) := by decide +kernel
theorem dX2_tryFrom_77 : decode cX2_tryFrom 77 = .ok (.iadd, 1) := by decide +kernel
theorem dX2_tryFrom_78 : decode cX2_tryFrom 78 = .ok (.iload_n 3, 1) := by decide +kernel
theorem dX2_tryFrom_79 : decode cX2_tryFrom 79 = .ok (.iload 4, 2) := by decide +kernel
theorem dX2_tryFrom_81 : decode cX2_tryFrom 81 = .ok (.invokevirtual 95, 3) := by decide +kernel
theorem dX2_tryFrom_84 : decode cX2_tryFrom 84 = .ok (.iinc 7 1, 3) := by decide +kernel
theorem dX2_tryFrom_87 : decode cX2_tryFrom 87 = .ok (.goto (-23), 3) := by decide +kernel
theorem dX2_tryFrom_90 : decode cX2_tryFrom 90 = .ok (.return_, 1) := by decide +kernel
theorem dX2_tryPoints_0 : decode cX2_tryPoints 0 = .ok (.aload_n 0, 1) := by decide +kernel
theorem dX2_tryPoints_1 : decode cX2_tryPoints 1 = .ok (.getfield 23, 3) := by decide +kernel
theorem dX2_tryPoints_4 : decode cX2_tryPoints 4 = .ok (.iload_n 1, 1) := by decide +kernel
theorem dX2_tryPoints_5 : decode cX2_tryPoints 5 = .ok (.iadd, 1) := by decide +kernel
theorem dX2_tryPoints_6 : decode cX2_tryPoints 6 = .ok (.istore 6, 2) := by decide +kernel
theorem dX2_tryPoints_8 : decode cX2_tryPoints 8 = .ok (.iload 4, 2) := by decide +kernel
theorem dX2_tryPoints_10 : decode cX2_tryPoints 10 = .ok (.iload_n 2, 1) := by decide +kernel
theorem dX2_tryPoints_11 : decode cX2_tryPoints 11 = .ok (.aload_n 0, 1) := by decide +kernel
theorem dX2_tryPoints_12 : decode cX2_tryPoints 12 = .ok (.getfield 40, 3) := by decide +kernel
theorem dX2_tryPoints_15 : decode cX2_tryPoints 15 = .ok (.getfield 60, 3) := by decide +kernel
theorem dX2_tryPoints_18 : decode cX2_tryPoints 18 = .ok (.iload 6, 2) := by decide +kernel
theorem dX2_tryPoints_20 : decode cX2_tryPoints 20 = .ok (.iconst 2, 1) := by decide +kernel
theorem dX2_tryPoints_21 : decode cX2_tryPoints 21 = .ok (.invokevirtual 48, 3) := by decide +kernel
theorem dX2_tryPoints_24 : decode cX2_tryPoints 24 = .ok (.imul, 1) := by decide +kernel
theorem dX2_tryPoints_25 : decode cX2_tryPoints 25 = .ok (.isub, 1) := by decide +kernel
theorem dX2_tryPoints_26 : decode cX2_tryPoints 26 = .ok (.istore 7, 2) := by decide +kernel
theorem dX2_tryPoints_28 : decode cX2_tryPoints 28 = .ok (.iload_n 3, 1) := by decide +kernel
theorem dX2_tryPoints_29 : decode cX2_tryPoints 29 = .ok (.bipush 9, 2) := by decide +kernel
theorem dX2_tryPoints_31 : decode cX2_tryPoints 31 = .ok (.if_icmp .gt 8, 3) := by decide +kernel
theorem dX2_tryPoints_34 : decode cX2_tryPoints 34 = .ok (.iload 7, 2) := by decide +kernel
theorem dX2_tryPoints_36 : decode cX2_tryPoints 36 = .ok (.ifCond .ge 4, 3) := by decide +kernel
theorem dX2_tryPoints_39 : decode cX2_tryPoints 39 = .ok (.return_, 1) := by decide +kernel
theorem dX2_tryPoints_40 : decode cX2_tryPoints 40 = .ok (.aload_n 0, 1) := by decide +kernel
theorem dX2_tryPoints_41 : decode cX2_tryPoints 41 = .ok (.getfield 14, 3) := by decide +kernel
theorem dX2_tryPoints_44 : decode cX2_tryPoints 44 = .ok (.iload_n 1, 1) := by decide +kernel
theorem dX2_tryPoints_45 : decode cX2_tryPoints 45 = .ok (.iconst 0, 1) := by decide +kernel
theorem dX2_tryPoints_46 : decode cX2_tryPoints 46 = .ok (.iload_n 2, 1) := by decide +kernel
theorem dX2_tryPoints_47 : decode cX2_tryPoints 47 = .ok (.invokevirtual 99, 3) := by decide +kernel
theorem dX2_tryPoints_50 : decode cX2_tryPoints 50 = .ok (.aload_n 0, 1) := by decide +kernel
theorem dX2_tryPoints_51 : decode cX2_tryPoints 51 = .ok (.iload_n 1, 1) := by decide +kernel
theorem dX2_tryPoints_52 : decode cX2_tryPoints 52 = .ok (.iconst 1, 1) := by decide +kernel
theorem dX2_tryPoints_53 : decode cX2_tryPoints 53 = .ok (.iadd, 1) := by decide +kernel
theorem dX2_tryPoints_54 : decode cX2_tryPoints 54 = .ok (.iconst 0, 1) := by decide +kernel
theorem dX2_tryPoints_55 : decode cX2_tryPoints 55 = .ok (.iload_n 3, 1) := by decide +kernel
theorem dX2_tryPoints_56 : decode cX2_tryPoints 56 = .ok (.iconst 1, 1) := by decide +kernel
theorem dX2_tryPoints_57 : decode cX2_tryPoints 57 = .ok (.isub, 1) := by decide +kernel
theorem dX2_tryPoints_58 : decode cX2_tryPoints 58 = .ok (.invokestatic 84, 3) := by decide +kernel
theorem dX2_tryPoints_61 : decode cX2_tryPoints 61 = .ok (.iload 7, 2) := by decide +kernel
theorem dX2_tryPoints_63 : decode cX2_tryPoints 63 = .ok (.aload_n 0, 1) := by decide +kernel
theorem dX2_tryPoints_64 : decode cX2_tryPoints 64 = .ok (.getfield 40, 3) := by decide +kernel
theorem dX2_tryPoints_67 : decode cX2_tryPoints 67 = .ok (.iload 6, 2) := by decide +kernel
theorem dX2_tryPoints_69 : decode cX2_tryPoints 69 = .ok (.iload_n 3, 1) := by decide +kernel
theorem dX2_tryPoints_70 : decode cX2_tryPoints 70 = .ok (.iload 5, 2) := by decide +kernel
theorem dX2_tryPoints_72 : decode cX2_tryPoints 72 = .ok (.invokevirtual 103, 3) := by decide +kernel
theorem dX2_tryPoints_75 : decode cX2_tryPoints 75 = .ok (.invokevirtual 80, 3) := by decide +kernel
theorem dX2_tryPoints_78 : decode cX2_tryPoints 78 = .ok (.return_, 1) := by decide +kernel
theorem dX3_init_0 : decode cX3_init 0 = .ok (.aload_n 0, 1) := by decide +kernel
theorem dX3_init_1 : decode cX3_init 1 = .ok (.invokespecial 3, 3) := by decide +kernel
theorem dX3_init_4 : decode cX3_init 4 = .ok (.aload_n 0, 1) := by decide +kernel
theorem dX3_init_5 : decode cX3_init 5 = .ok (.new 9, 3) := by decide +kernel
theorem dX3_init_8 : decode cX3_init 8 = .ok (.dup, 1) := by decide +kernel
theorem dX3_init_9 : decode cX3_init 9 = .ok (.invokespecial 11, 3) := by decide +kernel
theorem dX3_init_12 : decode cX3_init 12 = .ok (.putfield 12, 3) := by decide +kernel
theorem dX3_init_15 : decode cX3_init 15 = .ok (.aload_n 0, 1) := by decide +kernel
theorem dX3_init_16 : decode cX3_init 16 = .ok (.iconst 0, 1) := by decide +kernel
theorem dX3_init_17 : decode cX3_init 17 = .ok (.putfield 18, 3) := by decide +kernel
theorem dX3_init_20 : decode cX3_init 20 = .ok (.aload_n 0, 1) := by decide +kernel
theorem dX3_init_21 : decode cX3_init 21 = .ok (.iconst 0, 1) := by decide +kernel
theorem dX3_init_22 : decode cX3_init 22 = .ok (.putfield 22, 3) := by decide +kernel
theorem dX3_init_25 : decode cX3_init 25 = .ok (.aload_n 0, 1) := by decide +kernel
theorem dX3_init_26 : decode cX3_init 26 = .ok (.iconst (-1), 1) := by decide +kernel
theorem dX3_init_27 : decode cX3_init 27 = .ok (.putfield 25, 3) := by decide +kernel
theorem dX3_init_30 : decode cX3_init 30 = .ok (.aload_n 0, 1) := by decide +kernel
theorem dX3_init_31 : decode cX3_init 31 = .ok (.aload_n 1, 1) := by decide +kernel
theorem dX3_init_32 : decode cX3_init 32 = .ok (.putfield 28, 3) := by decide +kernel
theorem dX3_init_35 : decode cX3_init 35 = .ok (.return_, 1) := by decide +kernel
theorem dX3_readText_0 : decode cX3_readText 0 = .ok (.aload_n 0, 1) := by decide +kernel
theorem dX3_readText_1 : decode cX3_readText 1 = .ok (.iconst 0, 1) := by decide +kernel
theorem dX3_readText_2 : decode cX3_readText 2 = .ok (.putfield 18, 3) := by decide +kernel
theorem dX3_readText_5 : decode cX3_readText 5 = .ok (.aload_n 0, 1) := by decide +kernel
theorem dX3_readText_6 : decode cX3_readText 6 = .ok (.iconst 0, 1) := by decide +kernel
theorem dX3_readText_7 : decode cX3_readText 7 = .ok (.putfield 22, 3) := by decide +kernel
theorem dX3_readText_10 : decode cX3_readText 10 = .ok (.aload_n 0, 1) := by decide +kernel
theorem dX3_readText_11 : decode cX3_readText 11 = .ok (.iconst (-1), 1) := by decide +kernel
theorem dX3_readText_12 : decode cX3_readText 12 = .ok (.putfield 25, 3) := by decide +kernel
theorem dX3_readText_15 : decode cX3_readText 15 = .ok (.aload_n 0, 1) := by decide +kernel
theorem dX3_readText_16 : decode cX3_readText 16 = .ok (.getfield 12, 3) := by decide +kernel
theorem dX3_readText_19 : decode cX3_readText 19 = .ok (.invokevirtual 32, 3) := by decide +kernel
theorem dX3_readText_22 : decode cX3_readText 22 = .ok (.aload_n 0, 1) := by decide +kernel
theorem dX3_readText_23 : decode cX3_readText 23 = .ok (.invokevirtual 35, 3) := by decide +kernel
theorem dX3_readText_26 : decode cX3_readText 26 = .ok (.iconst 0, 1) := by decide +kernel
theorem dX3_readText_27 : decode cX3_readText 27 = .ok (.istore_n 1, 1) := by decide +kernel
theorem dX3_readText_28 : decode cX3_readText 28 = .ok (.iload_n 1, 1) := by decide +kernel
theorem dX3_readText_29 : decode cX3_readText 29 = .ok (.sipush 220, 3) := by decide +kernel
theorem dX3_readText_32 : decode cX3_readText 32 = .ok (.if_icmp .ge 38, 3) := by decide +kernel
theorem dX3_readText_35 : decode cX3_readText 35 = .ok (.aload_n 0, 1) := by decide +kernel
theorem dX3_readText_36 : decode cX3_readText 36 = .ok (.getfield 18, 3) := by decide +kernel
theorem dX3_readText_39 : decode cX3_readText 39 = .ok (.aload_n 0, 1) := by decide +kernel
theorem dX3_readText_40 : decode cX3_readText 40 = .ok (.getfield 28, 3) := by decide +kernel
theorem dX3_readText_43 : decode cX3_readText 43 = .ok (.invokevirtual 38, 3) := by decide +kernel
theorem dX3_readText_46 : decode cX3_readText 46 = .ok (.if_icmp .ge 24, 3) := by decide +kernel
theorem dX3_readText_49 : decode cX3_readText 49 = .ok (.aload_n 0, 1) := by decide +kernel
theorem dX3_readText_50 : decode cX3_readText 50 = .ok (.getfield 22, 3) := by decide +kernel
theorem dX3_readText_53 : decode cX3_readText 53 = .ok (.ifCond .ne 17, 3) := by decide +kernel
theorem dX3_readText_56 : decode cX3_readText 56 = .ok (.aload_n 0, 1) := by decide +kernel
theorem dX3_readText_57 : decode cX3_readText 57 = .ok (.invokevirtual 44, 3) := by decide +kernel
theorem dX3_readText_60 : decode cX3_readText 60 = .ok (.aload_n 0, 1) := by decide +kernel
theorem dX3_readText_61 : decode cX3_readText 61 = .ok (.invokevirtual 35, 3) := by decide +kernel
theorem dX3_readText_64 : decode cX3_readText 64 = .ok (.iinc 1 1, 3) := by decide +kernel
theorem dX3_readText_67 : decode cX3_readText 67 = .ok (.goto (-39), 3) := by decide +kernel
theorem dX3_readText_70 : decode cX3_readText 70 = .ok (.aload_n 0, 1) := by decide +kernel
theorem dX3_readText_71 : decode cX3_readText 71 = .ok (.getfield 22, 3) := by decide +kernel
theorem dX3_readText_74 : decode cX3_readText 74 = .ok (.ireturn, 1) := by decide +kernel
theorem dX3_placeOfFault_0 : decode cX3_placeOfFault 0 = .ok (.aload_n 0, 1) := by decide +kernel
theorem dX3_placeOfFault_1 : decode cX3_placeOfFault 1 = .ok (.getfield 25, 3) := by decide +kernel
theorem dX3_placeOfFault_4 : decode cX3_placeOfFault 4 = .ok (.ireturn, 1) := by decide +kernel
theorem dX3_whatWasRead_0 : decode cX3_whatWasRead 0 = .ok (.aload_n 0, 1) := by decide +kernel
theorem dX3_whatWasRead_1 : decode cX3_whatWasRead 1 = .ok (.getfield 12, 3) := by decide +kernel
theorem dX3_whatWasRead_4 : decode cX3_whatWasRead 4 = .ok (.areturn, 1) := by decide +kernel
theorem dX3_letter_0 : decode cX3_letter 0 = .ok (.aload_n 0, 1) := by decide +kernel
theorem dX3_letter_1 : decode cX3_letter 1 = .ok (.getfield 28, 3) := by decide +kernel
theorem dX3_letter_4 : decode cX3_letter 4 = .ok (.aload_n 0, 1) := by decide +kernel
theorem dX3_letter_5 : decode cX3_letter 5 = .ok (.getfield 18, 3) := by decide +kernel
theorem dX3_letter_8 : decode cX3_letter 8 = .ok (.iconst 0, 1) := by decide +kernel
theorem dX3_letter_9 : decode cX3_letter 9 = .ok (.invokevirtual 47, 3) := by decide +kernel
theorem dX3_letter_12 : decode cX3_letter 12 = .ok (.ireturn, 1) := by decide +kernel
theorem dX3_refuse_0 : decode cX3_refuse 0 = .ok (.aload_n 0, 1) := by decide +kernel
theorem dX3_refuse_1 : decode cX3_refuse 1 = .ok (.iload_n 1, 1) := by decide +kernel
theorem dX3_refuse_2 : decode cX3_refuse 2 = .ok (.putfield 22, 3) := by decide +kernel
theorem dX3_refuse_5 : decode cX3_refuse 5 = .ok (.aload_n 0, 1) := by decide +kernel
theorem dX3_refuse_6 : decode cX3_refuse 6 = .ok (.iload_n 2, 1) := by decide +kernel
theorem dX3_refuse_7 : decode cX3_refuse 7 = .ok (.putfield 25, 3) := by decide +kernel
theorem dX3_refuse_10 : decode cX3_refuse 10 = .ok (.return_, 1) := by decide +kernel
theorem dX3_skipBlanks_0 : decode cX3_skipBlanks 0 = .ok (.iconst 0, 1) := by decide +kernel
theorem dX3_skipBlanks_1 : decode cX3_skipBlanks 1 = .ok (.istore_n 1, 1) := by decide +kernel
theorem dX3_skipBlanks_2 : decode cX3_skipBlanks 2 = .ok (.iload_n 1, 1) := by decide +kernel
theorem dX3_skipBlanks_3 : decode cX3_skipBlanks 3 = .ok (.sipush 220, 3) := by decide +kernel
theorem dX3_skipBlanks_6 : decode cX3_skipBlanks 6 = .ok (.if_icmp .ge 28, 3) := by decide +kernel
theorem dX3_skipBlanks_9 : decode cX3_skipBlanks 9 = .ok (.aload_n 0, 1) := by decide +kernel
theorem dX3_skipBlanks_10 : decode cX3_skipBlanks 10 = .ok (.invokevirtual 51, 3) := by decide +kernel
theorem dX3_skipBlanks_13 : decode cX3_skipBlanks 13 = .ok (.bipush 32, 2) := by decide +kernel
theorem dX3_skipBlanks_15 : decode cX3_skipBlanks 15 = .ok (.if_icmp .ne 19, 3) := by decide +kernel
theorem dX3_skipBlanks_18 : decode cX3_skipBlanks 18 = .ok (.aload_n 0, 1) := by decide +kernel
theorem dX3_skipBlanks_19 : decode cX3_skipBlanks 19 = .ok (.dup, 1) := by decide +kernel
theorem dX3_skipBlanks_20 : decode cX3_skipBlanks 20 = .ok (.getfield 18, 3) := by decide +kernel
theorem dX3_skipBlanks_23 : decode cX3_skipBlanks 23 = .ok (.iconst 1, 1) := by decide +kernel
theorem dX3_skipBlanks_24 : decode cX3_skipBlanks 24 = .ok (.iadd, 1) := by decide +kernel
theorem dX3_skipBlanks_25 : decode cX3_skipBlanks 25 = .ok (.putfield 18, 3) := by decide +kernel
theorem dX3_skipBlanks_28 : decode cX3_skipBlanks 28 = .ok (.iinc 1 1, 3) := by decide +kernel
theorem dX3_skipBlanks_31 : decode cX3_skipBlanks 31 = .ok (.goto (-29), 3) := by decide +kernel
theorem dX3_skipBlanks_34 : decode cX3_skipBlanks 34 = .ok (.return_, 1) := by decide +kernel
theorem dX3_readClause_0 : decode cX3_readClause 0 = .ok (.aload_n 0, 1) := by decide +kernel
theorem dX3_readClause_1 : decode cX3_readClause 1 = .ok (.invokevirtual 51, 3) := by decide +kernel
theorem dX3_readClause_4 : decode cX3_readClause 4 = .ok (.invokestatic 54, 3) := by decide +kernel
theorem dX3_readClause_7 : decode cX3_readClause 7 = .ok (.istore_n 1, 1) := by decide +kernel
theorem dX3_readClause_8 : decode cX3_readClause 8 = .ok (.iload_n 1, 1) := by decide +kernel
theorem dX3_readClause_9 : decode cX3_readClause 9 = .ok (.iconst (-1), 1) := by decide +kernel
theorem dX3_readClause_10 : decode cX3_readClause 10 = .ok (.if_icmp .eq 20, 3) := by decide +kernel
theorem dX3_readClause_13 : decode cX3_readClause 13 = .ok (.iload_n 1, 1) := by decide +kernel
theorem dX3_readClause_14 : decode cX3_readClause 14 = .ok (.ifCond .eq 26, 3) := by decide +kernel
theorem dX3_readClause_17 : decode cX3_readClause 17 = .ok (.aload_n 0, 1) := by decide +kernel
theorem dX3_readClause_18 : decode cX3_readClause 18 = .ok (.getfield 12, 3) := by decide +kernel
theorem dX3_readClause_21 : decode cX3_readClause 21 = .ok (.getfield 58, 3) := by decide +kernel
theorem dX3_readClause_24 : decode cX3_readClause 24 = .ok (.invokevirtual 38, 3) := by decide +kernel
theorem dX3_readClause_27 : decode cX3_readClause 27 = .ok (.ifCond .ne 13, 3) := by decide +kernel
theorem dX3_readClause_30 : decode cX3_readClause 30 = .ok (.aload_n 0, 1) := by decide +kernel
theorem dX3_readClause_31 : decode cX3_readClause 31 = .ok (.iconst 1, 1) := by decide +kernel
theorem dX3_readClause_32 : decode cX3_readClause 32 = .ok (.aload_n 0, 1) := by decide +kernel
theorem dX3_readClause_33 : decode cX3_readClause 33 = .ok (.getfield 18, 3) := by decide +kernel
theorem dX3_readClause_36 : decode cX3_readClause 36 = .ok (.invokevirtual 61, 3) := by decide +kernel
theorem dX3_readClause_39 : decode cX3_readClause 39 = .ok (.return_, 1) := by decide +kernel
theorem dX3_readClause_40 : decode cX3_readClause 40 = .ok (.aload_n 0, 1) := by decide +kernel
theorem dX3_readClause_41 : decode cX3_readClause 41 = .ok (.iload_n 1, 1) := by decide +kernel
theorem dX3_readClause_42 : decode cX3_readClause 42 = .ok (.invokevirtual 65, 3) := by decide +kernel
theorem dX3_readClause_45 : decode cX3_readClause 45 = .ok (.astore_n 2, 1) := by decide +kernel
theorem dX3_readClause_46 : decode cX3_readClause 46 = .ok (.aload_n 2, 1) := by decide +kernel
theorem dX3_readClause_47 : decode cX3_readClause 47 = .ok (.invokevirtual 69, 3) := by decide +kernel
theorem dX3_readClause_50 : decode cX3_readClause 50 = .ok (.ifCond .eq 13, 3) := by decide +kernel
theorem dX3_readClause_53 : decode cX3_readClause 53 = .ok (.aload_n 0, 1) := by decide +kernel
theorem dX3_readClause_54 : decode cX3_readClause 54 = .ok (.iconst 3, 1) := by decide +kernel
theorem dX3_readClause_55 : decode cX3_readClause 55 = .ok (.aload_n 0, 1) := by decide +kernel
theorem dX3_readClause_56 : decode cX3_readClause 56 = .ok (.getfield 18, 3) := by decide +kernel
theorem dX3_readClause_59 : decode cX3_readClause 59 = .ok (.invokevirtual 61, 3) := by decide +kernel
theorem dX3_readClause_62 : decode cX3_readClause 62 = .ok (.return_, 1) := by decide +kernel
theorem dX3_readClause_63 : decode cX3_readClause 63 = .ok (.aload_n 0, 1) := by decide +kernel
theorem dX3_readClause_64 : decode cX3_readClause 64 = .ok (.dup, 1) := by decide +kernel
theorem dX3_readClause_65 : decode cX3_readClause 65 = .ok (.getfield 18, 3) := by decide +kernel
theorem dX3_readClause_68 : decode cX3_readClause 68 = .ok (.iconst 1, 1) := by decide +kernel
theorem dX3_readClause_69 : decode cX3_readClause 69 = .ok (.iadd, 1) := by decide +kernel
theorem dX3_readClause_70 : decode cX3_readClause 70 = .ok (.putfield 18, 3) := by decide +kernel
theorem dX3_readClause_73 : decode cX3_readClause 73 = .ok (.aload_n 2, 1) := by decide +kernel
theorem dX3_readClause_74 : decode cX3_readClause 74 = .ok (.invokevirtual 73, 3) := by decide +kernel
theorem dX3_readClause_77 : decode cX3_readClause 77 = .ok (.istore_n 3, 1) := by decide +kernel
theorem dX3_readClause_78 : decode cX3_readClause 78 = .ok (.iconst 0, 1) := by decide +kernel
theorem dX3_readClause_79 : decode cX3_readClause 79 = .ok (.istore 4, 2) := by decide +kernel
theorem dX3_readClause_81 : decode cX3_readClause 81 = .ok (.iload 4, 2) := by decide +kernel
theorem dX3_readClause_83 : decode cX3_readClause 83 = .ok (.aload_n 2, 1) := by decide +kernel
theorem dX3_readClause_84 : decode cX3_readClause 84 = .ok (.invokevirtual 76, 3) := by decide +kernel
theorem dX3_readClause_87 : decode cX3_readClause 87 = .ok (.if_icmp .ge 37, 3) := by decide +kernel
theorem dX3_readClause_90 : decode cX3_readClause 90 = .ok (.aload_n 0, 1) := by decide +kernel
theorem dX3_readClause_91 : decode cX3_readClause 91 = .ok (.getfield 22, 3) := by decide +kernel
theorem dX3_readClause_94 : decode cX3_readClause 94 = .ok (.ifCond .ne 30, 3) := by decide +kernel
theorem dX3_readClause_97 : decode cX3_readClause 97 = .ok (.aload_n 0, 1) := by decide +kernel
theorem dX3_readClause_98 : decode cX3_readClause 98 = .ok (.invokevirtual 35, 3) := by decide +kernel
theorem dX3_readClause_101 : decode cX3_readClause 101 = .ok (.aload_n 2, 1) := by decide +kernel
theorem dX3_readClause_102 : decode cX3_readClause 102 = .ok (.iload_n 3, 1) := by decide +kernel
theorem dX3_readClause_103 : decode cX3_readClause 103 = .ok (.iload 4, 2) := by decide +kernel
theorem dX3_readClause_105 : decode cX3_readClause 105 = .ok (.aload_n 0, 1) := by decide +kernel
theorem dX3_readClause_106 : decode cX3_readClause 106 = .ok (.iload_n 1, 1) := by decide +kernel
theorem dX3_readClause_107 : decode cX3_readClause 107 = .ok (.iconst 4, 1) := by decide +kernel
theorem dX3_readClause_108 : decode cX3_readClause 108 = .ok (.imul, 1) := by decide +kernel
theorem dX3_readClause_109 : decode cX3_readClause 109 = .ok (.iload 4, 2) := by decide +kernel
theorem dX3_readClause_111 : decode cX3_readClause 111 = .ok (.iadd, 1) := by decide +kernel
theorem dX3_readClause_112 : decode cX3_readClause 112 = .ok (.invokevirtual 79, 3) := by decide +kernel
theorem dX3_readClause_115 : decode cX3_readClause 115 = .ok (.invokevirtual 82, 3) := by decide +kernel
theorem dX3_readClause_118 : decode cX3_readClause 118 = .ok (.iinc 4 1, 3) := by decide +kernel
theorem dX3_readClause_121 : decode cX3_readClause 121 = .ok (.goto (-40), 3) := by decide +kernel
theorem dX3_readClause_124 : decode cX3_readClause 124 = .ok (.aload_n 0, 1) := by decide +kernel
theorem dX3_readClause_125 : decode cX3_readClause 125 = .ok (.getfield 22, 3) := by decide +kernel
theorem dX3_readClause_128 : decode cX3_readClause 128 = .ok (.ifCond .ne 11, 3) := by decide +kernel
theorem dX3_readClause_131 : decode cX3_readClause 131 = .ok (.aload_n 0, 1) := by decide +kernel
theorem dX3_readClause_132 : decode cX3_readClause 132 = .ok (.invokevirtual 35, 3) := by decide +kernel
theorem dX3_readClause_135 : decode cX3_readClause 135 = .ok (.aload_n 0, 1) := by decide +kernel
theorem dX3_readClause_136 : decode cX3_readClause 136 = .ok (.invokevirtual 86, 3) := by decide +kernel
theorem dX3_readClause_139 : decode cX3_readClause 139 = .ok (.return_, 1) := by decide +kernel
theorem dX3_wordOf_0 : decode cX3_wordOf 0 = .ok (.iload_n 0, 1) := by decide +kernel
theorem dX3_wordOf_1 : decode cX3_wordOf 1 = .ok (.lookupswitch 41 #[(108, 37), (109, 39), (115, 35)], 35) := by decide +kernel
theorem dX3_wordOf_36 : decode cX3_wordOf 36 = .ok (.iconst 0, 1) := by decide +kernel
theorem dX3_wordOf_37 : decode cX3_wordOf 37 = .ok (.ireturn, 1) := by decide +kernel
theorem dX3_wordOf_38 : decode cX3_wordOf 38 = .ok (.iconst 1, 1) := by decide +kernel
theorem dX3_wordOf_39 : decode cX3_wordOf 39 = .ok (.ireturn, 1) := by decide +kernel
theorem dX3_wordOf_40 : decode cX3_wordOf 40 = .ok (.iconst 2, 1) := by decide +kernel
theorem dX3_wordOf_41 : decode cX3_wordOf 41 = .ok (.ireturn, 1) := by decide +kernel
theorem dX3_wordOf_42 : decode cX3_wordOf 42 = .ok (.iconst (-1), 1) := by decide +kernel
theorem dX3_wordOf_43 : decode cX3_wordOf 43 = .ok (.ireturn, 1) := by decide +kernel
theorem dX3_clausesOf_0 : decode cX3_clausesOf 0 = .ok (.iload_n 1, 1) := by decide +kernel
theorem dX3_clausesOf_1 : decode cX3_clausesOf 1 = .ok (.ifCond .ne 11, 3) := by decide +kernel
theorem dX3_clausesOf_4 : decode cX3_clausesOf 4 = .ok (.aload_n 0, 1) := by decide +kernel
theorem dX3_clausesOf_5 : decode cX3_clausesOf 5 = .ok (.getfield 12, 3) := by decide +kernel
theorem dX3_clausesOf_8 : decode cX3_clausesOf 8 = .ok (.getfield 58, 3) := by decide +kernel
theorem dX3_clausesOf_11 : decode cX3_clausesOf 11 = .ok (.areturn, 1) := by decide +kernel
theorem dX3_clausesOf_12 : decode cX3_clausesOf 12 = .ok (.iload_n 1, 1) := by decide +kernel
theorem dX3_clausesOf_13 : decode cX3_clausesOf 13 = .ok (.iconst 1, 1) := by decide +kernel
theorem dX3_clausesOf_14 : decode cX3_clausesOf 14 = .ok (.if_icmp .ne 13, 3) := by decide +kernel
theorem dX3_clausesOf_17 : decode cX3_clausesOf 17 = .ok (.aload_n 0, 1) := by decide +kernel
theorem dX3_clausesOf_18 : decode cX3_clausesOf 18 = .ok (.getfield 12, 3) := by decide +kernel
theorem dX3_clausesOf_21 : decode cX3_clausesOf 21 = .ok (.getfield 89, 3) := by decide +kernel
theorem dX3_clausesOf_24 : decode cX3_clausesOf 24 = .ok (.goto 10, 3) := by decide +kernel
theorem dX3_clausesOf_27 : decode cX3_clausesOf 27 = .ok (.aload_n 0, 1) := by decide +kernel
theorem dX3_clausesOf_28 : decode cX3_clausesOf 28 = .ok (.getfield 12, 3) := by decide +kernel
theorem dX3_clausesOf_31 : decode cX3_clausesOf 31 = .ok (.getfield 92, 3) := by decide +kernel
theorem dX3_clausesOf_34 : decode cX3_clausesOf 34 = .ok (.areturn, 1) := by decide +kernel
theorem dX3_readNumber_0 : decode cX3_readNumber 0 = .ok (.aload_n 0, 1) := by decide +kernel
theorem dX3_readNumber_1 : decode cX3_readNumber 1 = .ok (.getfield 18, 3) := by decide +kernel
theorem dX3_readNumber_4 : decode cX3_readNumber 4 = .ok (.istore_n 2, 1) := by decide +kernel
theorem dX3_readNumber_5 : decode cX3_readNumber 5 = .ok (.iconst 0, 1) := by decide +kernel
theorem dX3_readNumber_6 : decode cX3_readNumber 6 = .ok (.istore_n 3, 1) := by decide +kernel
theorem dX3_readNumber_7 : decode cX3_readNumber 7 = .ok (.iconst 0, 1) := by decide +kernel
theorem dX3_readNumber_8 : decode cX3_readNumber 8 = .ok (.istore 4, 2) := by decide +kernel
theorem dX3_readNumber_10 : decode cX3_readNumber 10 = .ok (.iload 4, 2) := by decide +kernel
theorem dX3_readNumber_12 : decode cX3_readNumber 12 = .ok (.sipush 220, 3) := by decide +kernel
theorem dX3_readNumber_15 : decode cX3_readNumber 15 = .ok (.if_icmp .ge 56, 3) := by decide +kernel
theorem dX3_readNumber_18 : decode cX3_readNumber 18 = .ok (.aload_n 0, 1) := by decide +kernel
theorem dX3_readNumber_19 : decode cX3_readNumber 19 = .ok (.invokevirtual 51, 3) := by decide +kernel
theorem dX3_readNumber_22 : decode cX3_readNumber 22 = .ok (.bipush 48, 2) := by decide +kernel
theorem dX3_readNumber_24 : decode cX3_readNumber 24 = .ok (.if_icmp .lt 47, 3) := by decide +kernel
theorem dX3_readNumber_27 : decode cX3_readNumber 27 = .ok (.aload_n 0, 1) := by decide +kernel
theorem dX3_readNumber_28 : decode cX3_readNumber 28 = .ok (.invokevirtual 51, 3) := by decide +kernel
theorem dX3_readNumber_31 : decode cX3_readNumber 31 = .ok (.bipush 57, 2) := by decide +kernel
theorem dX3_readNumber_33 : decode cX3_readNumber 33 = .ok (.if_icmp .gt 38, 3) := by decide +kernel
theorem dX3_readNumber_36 : decode cX3_readNumber 36 = .ok (.iload_n 3, 1) := by decide +kernel
theorem dX3_readNumber_37 : decode cX3_readNumber 37 = .ok (.sipush 999, 3) := by decide +kernel
theorem dX3_readNumber_40 : decode cX3_readNumber 40 = .ok (.invokestatic 95, 3) := by decide +kernel
theorem dX3_readNumber_43 : decode cX3_readNumber 43 = .ok (.bipush 10, 2) := by decide +kernel
theorem dX3_readNumber_45 : decode cX3_readNumber 45 = .ok (.imul, 1) := by decide +kernel
theorem dX3_readNumber_46 : decode cX3_readNumber 46 = .ok (.aload_n 0, 1) := by decide +kernel
theorem dX3_readNumber_47 : decode cX3_readNumber 47 = .ok (.invokevirtual 51, 3) := by decide +kernel
theorem dX3_readNumber_50 : decode cX3_readNumber 50 = .ok (.iadd, 1) := by decide +kernel
theorem dX3_readNumber_51 : decode cX3_readNumber 51 = .ok (.bipush 48, 2) := by decide +kernel
theorem dX3_readNumber_53 : decode cX3_readNumber 53 = .ok (.isub, 1) := by decide +kernel
theorem dX3_readNumber_54 : decode cX3_readNumber 54 = .ok (.istore_n 3, 1) := by decide +kernel
theorem dX3_readNumber_55 : decode cX3_readNumber 55 = .ok (.aload_n 0, 1) := by decide +kernel
theorem dX3_readNumber_56 : decode cX3_readNumber 56 = .ok (.dup, 1) := by decide +kernel
theorem dX3_readNumber_57 : decode cX3_readNumber 57 = .ok (.getfield 18, 3) := by decide +kernel
theorem dX3_readNumber_60 : decode cX3_readNumber 60 = .ok (.iconst 1, 1) := by decide +kernel
theorem dX3_readNumber_61 : decode cX3_readNumber 61 = .ok (.iadd, 1) := by decide +kernel
theorem dX3_readNumber_62 : decode cX3_readNumber 62 = .ok (.putfield 18, 3) := by decide +kernel
theorem dX3_readNumber_65 : decode cX3_readNumber 65 = .ok (.iinc 4 1, 3) := by decide +kernel
theorem dX3_readNumber_68 : decode cX3_readNumber 68 = .ok (.goto (-58), 3) := by decide +kernel
theorem dX3_readNumber_71 : decode cX3_readNumber 71 = .ok (.aload_n 0, 1) := by decide +kernel
theorem dX3_readNumber_72 : decode cX3_readNumber 72 = .ok (.getfield 18, 3) := by decide +kernel
theorem dX3_readNumber_75 : decode cX3_readNumber 75 = .ok (.iload_n 2, 1) := by decide +kernel
theorem dX3_readNumber_76 : decode cX3_readNumber 76 = .ok (.isub, 1) := by decide +kernel
theorem dX3_readNumber_77 : decode cX3_readNumber 77 = .ok (.istore 4, 2) := by decide +kernel
theorem dX3_readNumber_79 : decode cX3_readNumber 79 = .ok (.iload 4, 2) := by decide +kernel
theorem dX3_readNumber_81 : decode cX3_readNumber 81 = .ok (.ifCond .ne 12, 3) := by decide +kernel
theorem dX3_readNumber_84 : decode cX3_readNumber 84 = .ok (.aload_n 0, 1) := by decide +kernel
theorem dX3_readNumber_85 : decode cX3_readNumber 85 = .ok (.iconst 1, 1) := by decide +kernel
theorem dX3_readNumber_86 : decode cX3_readNumber 86 = .ok (.iload_n 2, 1) := by decide +kernel
theorem dX3_readNumber_87 : decode cX3_readNumber 87 = .ok (.invokevirtual 61, 3) := by decide +kernel
theorem dX3_readNumber_90 : decode cX3_readNumber 90 = .ok (.goto 23, 3) := by decide +kernel
theorem dX3_readNumber_93 : decode cX3_readNumber 93 = .ok (.iload 4, 2) := by decide +kernel
theorem dX3_readNumber_95 : decode cX3_readNumber 95 = .ok (.iconst 3, 1) := by decide +kernel
theorem dX3_readNumber_96 : decode cX3_readNumber 96 = .ok (.if_icmp .gt 11, 3) := by decide +kernel
theorem dX3_readNumber_99 : decode cX3_readNumber 99 = .ok (.iload_n 1, 1) := by decide +kernel
theorem dX3_readNumber_100 : decode cX3_readNumber 100 = .ok (.iload_n 3, 1) := by decide +kernel
theorem dX3_readNumber_101 : decode cX3_readNumber 101 = .ok (.invokestatic 100, 3) := by decide +kernel
theorem dX3_readNumber_104 : decode cX3_readNumber 104 = .ok (.ifCond .ne 9, 3) := by decide +kernel
theorem dX3_readNumber_107 : decode cX3_readNumber 107 = .ok (.aload_n 0, 1) := by decide +kernel
theorem dX3_readNumber_108 : decode cX3_readNumber 108 = .ok (.iconst 2, 1) := by decide +kernel
theorem dX3_readNumber_109 : decode cX3_readNumber 109 = .ok (.iload_n 2, 1) := by decide +kernel
theorem dX3_readNumber_110 : decode cX3_readNumber 110 = .ok (.invokevirtual 61, 3) := by decide +kernel
theorem dX3_readNumber_113 : decode cX3_readNumber 113 = .ok (.iload_n 3, 1) := by decide +kernel
theorem dX3_readNumber_114 : decode cX3_readNumber 114 = .ok (.ireturn, 1) := by decide +kernel
theorem dX3_isWithin_0 : decode cX3_isWithin 0 = .ok (.iload_n 0, 1) := by decide +kernel
theorem dX3_isWithin_1 : decode cX3_isWithin 1 = .ok (.ifCond .lt 19, 3) := by decide +kernel
theorem dX3_isWithin_4 : decode cX3_isWithin 4 = .ok (.iload_n 0, 1) := by decide +kernel
theorem dX3_isWithin_5 : decode cX3_isWithin 5 = .ok (.getstatic 104, 3) := by decide +kernel
theorem dX3_isWithin_8 : decode cX3_isWithin 8 = .ok (.arraylength, 1) := by decide +kernel
theorem dX3_isWithin_9 : decode cX3_isWithin 9 = .ok (.if_icmp .ge 11, 3) := by decide +kernel
theorem dX3_isWithin_12 : decode cX3_isWithin 12 = .ok (.iload_n 0, 1) := by decide +kernel
theorem dX3_isWithin_13 : decode cX3_isWithin 13 = .ok (.getstatic 108, 3) := by decide +kernel
theorem dX3_isWithin_16 : decode cX3_isWithin 16 = .ok (.arraylength, 1) := by decide +kernel
theorem dX3_isWithin_17 : decode cX3_isWithin 17 = .ok (.if_icmp .lt 5, 3) := by decide +kernel
theorem dX3_isWithin_20 : decode cX3_isWithin 20 = .ok (.iconst 0, 1) := by decide +kernel
theorem dX3_isWithin_21 : decode cX3_isWithin 21 = .ok (.ireturn, 1) := by decide +kernel
theorem dX3_isWithin_22 : decode cX3_isWithin 22 = .ok (.iload_n 1, 1) := by decide +kernel
theorem dX3_isWithin_23 : decode cX3_isWithin 23 = .ok (.getstatic 104, 3) := by decide +kernel
theorem dX3_isWithin_26 : decode cX3_isWithin 26 = .ok (.iload_n 0, 1) := by decide +kernel
theorem dX3_isWithin_27 : decode cX3_isWithin 27 = .ok (.iaload, 1) := by decide +kernel
theorem dX3_isWithin_28 : decode cX3_isWithin 28 = .ok (.if_icmp .lt 16, 3) := by decide +kernel
theorem dX3_isWithin_31 : decode cX3_isWithin 31 = .ok (.iload_n 1, 1) := by decide +kernel
theorem dX3_isWithin_32 : decode cX3_isWithin 32 = .ok (.getstatic 108, 3) := by decide +kernel
theorem dX3_isWithin_35 : decode cX3_isWithin 35 = .ok (.iload_n 0, 1) := by decide +kernel
theorem dX3_isWithin_36 : decode cX3_isWithin 36 = .ok (.iaload, 1) := by decide +kernel
theorem dX3_isWithin_37 : decode cX3_isWithin 37 = .ok (.if_icmp .gt 7, 3) := by decide +kernel
theorem dX3_isWithin_40 : decode cX3_isWithin 40 = .ok (.iconst 1, 1) := by decide +kernel
theorem dX3_isWithin_41 : decode cX3_isWithin 41 = .ok (.goto 4, 3) := by decide +kernel
theorem dX3_isWithin_44 : decode cX3_isWithin 44 = .ok (.iconst 0, 1) := by decide +kernel
theorem dX3_isWithin_45 : decode cX3_isWithin 45 = .ok (.ireturn, 1) := by decide +kernel
theorem dX3_readEnd_0 : decode cX3_readEnd 0 = .ok (.aload_n 0, 1) := by decide +kernel
theorem dX3_readEnd_1 : decode cX3_readEnd 1 = .ok (.invokevirtual 51, 3) := by decide +kernel
theorem dX3_readEnd_4 : decode cX3_readEnd 4 = .ok (.bipush 59, 2) := by decide +kernel
theorem dX3_readEnd_6 : decode cX3_readEnd 6 = .ok (.if_icmp .ne 16, 3) := by decide +kernel
theorem dX3_readEnd_9 : decode cX3_readEnd 9 = .ok (.aload_n 0, 1) := by decide +kernel
theorem dX3_readEnd_10 : decode cX3_readEnd 10 = .ok (.dup, 1) := by decide +kernel
theorem dX3_readEnd_11 : decode cX3_readEnd 11 = .ok (.getfield 18, 3) := by decide +kernel
theorem dX3_readEnd_14 : decode cX3_readEnd 14 = .ok (.iconst 1, 1) := by decide +kernel
theorem dX3_readEnd_15 : decode cX3_readEnd 15 = .ok (.iadd, 1) := by decide +kernel
theorem dX3_readEnd_16 : decode cX3_readEnd 16 = .ok (.putfield 18, 3) := by decide +kernel
theorem dX3_readEnd_19 : decode cX3_readEnd 19 = .ok (.goto 12, 3) := by decide +kernel
theorem dX3_readEnd_22 : decode cX3_readEnd 22 = .ok (.aload_n 0, 1) := by decide +kernel
theorem dX3_readEnd_23 : decode cX3_readEnd 23 = .ok (.iconst 1, 1) := by decide +kernel
theorem dX3_readEnd_24 : decode cX3_readEnd 24 = .ok (.aload_n 0, 1) := by decide +kernel
theorem dX3_readEnd_25 : decode cX3_readEnd 25 = .ok (.getfield 18, 3) := by decide +kernel
theorem dX3_readEnd_28 : decode cX3_readEnd 28 = .ok (.invokevirtual 61, 3) := by decide +kernel
theorem dX3_readEnd_31 : decode cX3_readEnd 31 = .ok (.return_, 1) := by decide +kernel
theorem dX4_init_0 : decode cX4_init 0 = .ok (.aload_n 0, 1) := by decide +kernel
theorem dX4_init_1 : decode cX4_init 1 = .ok (.invokespecial 3, 3) := by decide +kernel
theorem dX4_init_4 : decode cX4_init 4 = .ok (.aload_n 0, 1) := by decide +kernel
theorem dX4_init_5 : decode cX4_init 5 = .ok (.new 9, 3) := by decide +kernel
theorem dX4_init_8 : decode cX4_init 8 = .ok (.dup, 1) := by decide +kernel
theorem dX4_init_9 : decode cX4_init 9 = .ok (.iconst 5, 1) := by decide +kernel
theorem dX4_init_10 : decode cX4_init 10 = .ok (.bipush 8, 2) := by decide +kernel
theorem dX4_init_12 : decode cX4_init 12 = .ok (.invokespecial 11, 3) := by decide +kernel
theorem dX4_init_15 : decode cX4_init 15 = .ok (.putfield 14, 3) := by decide +kernel
theorem dX4_init_18 : decode cX4_init 18 = .ok (.aload_n 0, 1) := by decide +kernel
theorem dX4_init_19 : decode cX4_init 19 = .ok (.iconst 0, 1) := by decide +kernel
theorem dX4_init_20 : decode cX4_init 20 = .ok (.putfield 20, 3) := by decide +kernel
theorem dX4_init_23 : decode cX4_init 23 = .ok (.aload_n 0, 1) := by decide +kernel
theorem dX4_init_24 : decode cX4_init 24 = .ok (.iconst 0, 1) := by decide +kernel
theorem dX4_init_25 : decode cX4_init 25 = .ok (.putfield 24, 3) := by decide +kernel
theorem dX4_init_28 : decode cX4_init 28 = .ok (.aload_n 0, 1) := by decide +kernel
theorem dX4_init_29 : decode cX4_init 29 = .ok (.iconst 0, 1) := by decide +kernel
theorem dX4_init_30 : decode cX4_init 30 = .ok (.putfield 27, 3) := by decide +kernel
theorem dX4_init_33 : decode cX4_init 33 = .ok (.aload_n 0, 1) := by decide +kernel
theorem dX4_init_34 : decode cX4_init 34 = .ok (.iconst 0, 1) := by decide +kernel
theorem dX4_init_35 : decode cX4_init 35 = .ok (.putfield 30, 3) := by decide +kernel
theorem dX4_init_38 : decode cX4_init 38 = .ok (.return_, 1) := by decide +kernel
theorem dX4_begin_0 : decode cX4_begin 0 = .ok (.aload_n 0, 1) := by decide +kernel
theorem dX4_begin_1 : decode cX4_begin 1 = .ok (.getfield 14, 3) := by decide +kernel
theorem dX4_begin_4 : decode cX4_begin 4 = .ok (.invokevirtual 34, 3) := by decide +kernel
theorem dX4_begin_7 : decode cX4_begin 7 = .ok (.aload_n 0, 1) := by decide +kernel
theorem dX4_begin_8 : decode cX4_begin 8 = .ok (.aload_n 1, 1) := by decide +kernel
theorem dX4_begin_9 : decode cX4_begin 9 = .ok (.getfield 37, 3) := by decide +kernel
theorem dX4_begin_12 : decode cX4_begin 12 = .ok (.iconst 0, 1) := by decide +kernel
theorem dX4_begin_13 : decode cX4_begin 13 = .ok (.iconst 2, 1) := by decide +kernel
theorem dX4_begin_14 : decode cX4_begin 14 = .ok (.invokevirtual 42, 3) := by decide +kernel
theorem dX4_begin_17 : decode cX4_begin 17 = .ok (.putfield 20, 3) := by decide +kernel
theorem dX4_begin_20 : decode cX4_begin 20 = .ok (.aload_n 0, 1) := by decide +kernel
theorem dX4_begin_21 : decode cX4_begin 21 = .ok (.aload_n 1, 1) := by decide +kernel
theorem dX4_begin_22 : decode cX4_begin 22 = .ok (.getfield 37, 3) := by decide +kernel
theorem dX4_begin_25 : decode cX4_begin 25 = .ok (.iconst 0, 1) := by decide +kernel
theorem dX4_begin_26 : decode cX4_begin 26 = .ok (.iconst 3, 1) := by decide +kernel
theorem dX4_begin_27 : decode cX4_begin 27 = .ok (.invokevirtual 42, 3) := by decide +kernel
theorem dX4_begin_30 : decode cX4_begin 30 = .ok (.putfield 24, 3) := by decide +kernel
theorem dX4_begin_33 : decode cX4_begin 33 = .ok (.aload_n 0, 1) := by decide +kernel
theorem dX4_begin_34 : decode cX4_begin 34 = .ok (.iconst 0, 1) := by decide +kernel
theorem dX4_begin_35 : decode cX4_begin 35 = .ok (.putfield 27, 3) := by decide +kernel
theorem dX4_begin_38 : decode cX4_begin 38 = .ok (.aload_n 0, 1) := by decide +kernel
theorem dX4_begin_39 : decode cX4_begin 39 = .ok (.iconst 0, 1) := by decide +kernel
theorem dX4_begin_40 : decode cX4_begin 40 = .ok (.putfield 30, 3) := by decide +kernel
theorem dX4_begin_43 : decode cX4_begin 43 = .ok (.return_, 1) := by decide +kernel
theorem dX4_become_0 : decode cX4_become 0 = .ok (.aload_n 0, 1) := by decide +kernel
theorem dX4_become_1 : decode cX4_become 1 = .ok (.getfield 14, 3) := by decide +kernel
theorem dX4_become_4 : decode cX4_become 4 = .ok (.aload_n 1, 1) := by decide +kernel
theorem dX4_become_5 : decode cX4_become 5 = .ok (.getfield 14, 3) := by decide +kernel
theorem dX4_become_8 : decode cX4_become 8 = .ok (.invokevirtual 46, 3) := by decide +kernel
theorem dX4_become_11 : decode cX4_become 11 = .ok (.aload_n 0, 1) := by decide +kernel
theorem dX4_become_12 : decode cX4_become 12 = .ok (.aload_n 1, 1) := by decide +kernel
theorem dX4_become_13 : decode cX4_become 13 = .ok (.getfield 20, 3) := by decide +kernel
theorem dX4_become_16 : decode cX4_become 16 = .ok (.putfield 20, 3) := by decide +kernel
theorem dX4_become_19 : decode cX4_become 19 = .ok (.aload_n 0, 1) := by decide +kernel
theorem dX4_become_20 : decode cX4_become 20 = .ok (.aload_n 1, 1) := by decide +kernel
theorem dX4_become_21 : decode cX4_become 21 = .ok (.getfield 24, 3) := by decide +kernel
theorem dX4_become_24 : decode cX4_become 24 = .ok (.putfield 24, 3) := by decide +kernel
theorem dX4_become_27 : decode cX4_become 27 = .ok (.aload_n 0, 1) := by decide +kernel
theorem dX4_become_28 : decode cX4_become 28 = .ok (.aload_n 1, 1) := by decide +kernel
theorem dX4_become_29 : decode cX4_become 29 = .ok (.getfield 27, 3) := by decide +kernel
theorem dX4_become_32 : decode cX4_become 32 = .ok (.putfield 27, 3) := by decide +kernel
theorem dX4_become_35 : decode cX4_become 35 = .ok (.aload_n 0, 1) := by decide +kernel
theorem dX4_become_36 : decode cX4_become 36 = .ok (.aload_n 1, 1) := by decide +kernel
theorem dX4_become_37 : decode cX4_become 37 = .ok (.getfield 30, 3) := by decide +kernel
theorem dX4_become_40 : decode cX4_become 40 = .ok (.putfield 30, 3) := by decide +kernel
theorem dX4_become_43 : decode cX4_become 43 = .ok (.return_, 1) := by decide +kernel
theorem dX4_sailOn_0 : decode cX4_sailOn 0 = .ok (.iload_n 1, 1) := by decide +kernel
theorem dX4_sailOn_1 : decode cX4_sailOn 1 = .ok (.ifCond .eq 30, 3) := by decide +kernel
theorem dX4_sailOn_4 : decode cX4_sailOn 4 = .ok (.aload_n 0, 1) := by decide +kernel
theorem dX4_sailOn_5 : decode cX4_sailOn 5 = .ok (.dup, 1) := by decide +kernel
theorem dX4_sailOn_6 : decode cX4_sailOn 6 = .ok (.getfield 27, 3) := by decide +kernel
theorem dX4_sailOn_9 : decode cX4_sailOn 9 = .ok (.iconst 1, 1) := by decide +kernel
theorem dX4_sailOn_10 : decode cX4_sailOn 10 = .ok (.iadd, 1) := by decide +kernel
theorem dX4_sailOn_11 : decode cX4_sailOn 11 = .ok (.putfield 27, 3) := by decide +kernel
theorem dX4_sailOn_14 : decode cX4_sailOn 14 = .ok (.aload_n 0, 1) := by decide +kernel
theorem dX4_sailOn_15 : decode cX4_sailOn 15 = .ok (.iconst 0, 1) := by decide +kernel
theorem dX4_sailOn_16 : decode cX4_sailOn 16 = .ok (.aload_n 0, 1) := by decide +kernel
theorem dX4_sailOn_17 : decode cX4_sailOn 17 = .ok (.getfield 20, 3) := by decide +kernel
theorem dX4_sailOn_20 : decode cX4_sailOn 20 = .ok (.iconst 1, 1) := by decide +kernel
theorem dX4_sailOn_21 : decode cX4_sailOn 21 = .ok (.isub, 1) := by decide +kernel
theorem dX4_sailOn_22 : decode cX4_sailOn 22 = .ok (.invokestatic 50, 3) := by decide +kernel
theorem dX4_sailOn_25 : decode cX4_sailOn 25 = .ok (.putfield 20, 3) := by decide +kernel
theorem dX4_sailOn_28 : decode cX4_sailOn 28 = .ok (.goto 8, 3) := by decide +kernel
theorem dX4_sailOn_31 : decode cX4_sailOn 31 = .ok (.aload_n 0, 1) := by decide +kernel
theorem dX4_sailOn_32 : decode cX4_sailOn 32 = .ok (.iconst 1, 1) := by decide +kernel
theorem dX4_sailOn_33 : decode cX4_sailOn 33 = .ok (.putfield 30, 3) := by decide +kernel
theorem dX4_sailOn_36 : decode cX4_sailOn 36 = .ok (.return_, 1) := by decide +kernel
theorem dX4_lentBy_0 : decode cX4_lentBy 0 = .ok (.iconst 0, 1) := by decide +kernel
theorem dX4_lentBy_1 : decode cX4_lentBy 1 = .ok (.istore_n 2, 1) := by decide +kernel
theorem dX4_lentBy_2 : decode cX4_lentBy 2 = .ok (.iconst 0, 1) := by decide +kernel
theorem dX4_lentBy_3 : decode cX4_lentBy 3 = .ok (.istore_n 3, 1) := by decide +kernel
theorem dX4_lentBy_4 : decode cX4_lentBy 4 = .ok (.iload_n 3, 1) := by decide +kernel
theorem dX4_lentBy_5 : decode cX4_lentBy 5 = .ok (.aload_n 0, 1) := by decide +kernel
theorem dX4_lentBy_6 : decode cX4_lentBy 6 = .ok (.getfield 14, 3) := by decide +kernel
theorem dX4_lentBy_9 : decode cX4_lentBy 9 = .ok (.invokevirtual 55, 3) := by decide +kernel
theorem dX4_lentBy_12 : decode cX4_lentBy 12 = .ok (.if_icmp .ge 38, 3) := by decide +kernel
theorem dX4_lentBy_15 : decode cX4_lentBy 15 = .ok (.iload_n 2, 1) := by decide +kernel
theorem dX4_lentBy_16 : decode cX4_lentBy 16 = .ok (.aload_n 0, 1) := by decide +kernel
theorem dX4_lentBy_17 : decode cX4_lentBy 17 = .ok (.getfield 14, 3) := by decide +kernel
theorem dX4_lentBy_20 : decode cX4_lentBy 20 = .ok (.iload_n 3, 1) := by decide +kernel
theorem dX4_lentBy_21 : decode cX4_lentBy 21 = .ok (.iconst 0, 1) := by decide +kernel
theorem dX4_lentBy_22 : decode cX4_lentBy 22 = .ok (.invokevirtual 42, 3) := by decide +kernel
theorem dX4_lentBy_25 : decode cX4_lentBy 25 = .ok (.iload_n 1, 1) := by decide +kernel
theorem dX4_lentBy_26 : decode cX4_lentBy 26 = .ok (.if_icmp .ne 15, 3) := by decide +kernel
theorem dX4_lentBy_29 : decode cX4_lentBy 29 = .ok (.aload_n 0, 1) := by decide +kernel
theorem dX4_lentBy_30 : decode cX4_lentBy 30 = .ok (.getfield 14, 3) := by decide +kernel
theorem dX4_lentBy_33 : decode cX4_lentBy 33 = .ok (.iload_n 3, 1) := by decide +kernel
theorem dX4_lentBy_34 : decode cX4_lentBy 34 = .ok (.iconst 1, 1) := by decide +kernel
theorem dX4_lentBy_35 : decode cX4_lentBy 35 = .ok (.invokevirtual 42, 3) := by decide +kernel
theorem dX4_lentBy_38 : decode cX4_lentBy 38 = .ok (.goto 4, 3) := by decide +kernel
theorem dX4_lentBy_41 : decode cX4_lentBy 41 = .ok (.iconst 0, 1) := by decide +kernel
theorem dX4_lentBy_42 : decode cX4_lentBy 42 = .ok (.iadd, 1) := by decide +kernel
theorem dX4_lentBy_43 : decode cX4_lentBy 43 = .ok (.istore_n 2, 1) := by decide +kernel
theorem dX4_lentBy_44 : decode cX4_lentBy 44 = .ok (.iinc 3 1, 3) := by decide +kernel
theorem dX4_lentBy_47 : decode cX4_lentBy 47 = .ok (.goto (-43), 3) := by decide +kernel
theorem dX4_lentBy_50 : decode cX4_lentBy 50 = .ok (.iload_n 2, 1) := by decide +kernel
theorem dX4_lentBy_51 : decode cX4_lentBy 51 = .ok (.ireturn, 1) := by decide +kernel
theorem dX4_dueFrom_0 : decode cX4_dueFrom 0 = .ok (.iconst 0, 1) := by decide +kernel
theorem dX4_dueFrom_1 : decode cX4_dueFrom 1 = .ok (.istore_n 3, 1) := by decide +kernel
theorem dX4_dueFrom_2 : decode cX4_dueFrom 2 = .ok (.iload_n 1, 1) := by decide +kernel
theorem dX4_dueFrom_3 : decode cX4_dueFrom 3 = .ok (.istore 4, 2) := by decide +kernel
theorem dX4_dueFrom_5 : decode cX4_dueFrom 5 = .ok (.iload 4, 2) := by decide +kernel
theorem dX4_dueFrom_7 : decode cX4_dueFrom 7 = .ok (.aload_n 0, 1) := by decide +kernel
theorem dX4_dueFrom_8 : decode cX4_dueFrom 8 = .ok (.getfield 14, 3) := by decide +kernel
theorem dX4_dueFrom_11 : decode cX4_dueFrom 11 = .ok (.invokevirtual 55, 3) := by decide +kernel
theorem dX4_dueFrom_14 : decode cX4_dueFrom 14 = .ok (.if_icmp .ge 40, 3) := by decide +kernel
theorem dX4_dueFrom_17 : decode cX4_dueFrom 17 = .ok (.iload_n 3, 1) := by decide +kernel
theorem dX4_dueFrom_18 : decode cX4_dueFrom 18 = .ok (.aload_n 0, 1) := by decide +kernel
theorem dX4_dueFrom_19 : decode cX4_dueFrom 19 = .ok (.getfield 14, 3) := by decide +kernel
theorem dX4_dueFrom_22 : decode cX4_dueFrom 22 = .ok (.iload 4, 2) := by decide +kernel
theorem dX4_dueFrom_24 : decode cX4_dueFrom 24 = .ok (.iconst 2, 1) := by decide +kernel
theorem dX4_dueFrom_25 : decode cX4_dueFrom 25 = .ok (.invokevirtual 42, 3) := by decide +kernel
theorem dX4_dueFrom_28 : decode cX4_dueFrom 28 = .ok (.iload_n 2, 1) := by decide +kernel
theorem dX4_dueFrom_29 : decode cX4_dueFrom 29 = .ok (.if_icmp .ne 16, 3) := by decide +kernel
theorem dX4_dueFrom_32 : decode cX4_dueFrom 32 = .ok (.aload_n 0, 1) := by decide +kernel
theorem dX4_dueFrom_33 : decode cX4_dueFrom 33 = .ok (.getfield 14, 3) := by decide +kernel
theorem dX4_dueFrom_36 : decode cX4_dueFrom 36 = .ok (.iload 4, 2) := by decide +kernel
theorem dX4_dueFrom_38 : decode cX4_dueFrom 38 = .ok (.iconst 3, 1) := by decide +kernel
theorem dX4_dueFrom_39 : decode cX4_dueFrom 39 = .ok (.invokevirtual 42, 3) := by decide +kernel
theorem dX4_dueFrom_42 : decode cX4_dueFrom 42 = .ok (.goto 4, 3) := by decide +kernel
theorem dX4_dueFrom_45 : decode cX4_dueFrom 45 = .ok (.iconst 0, 1) := by decide +kernel
theorem dX4_dueFrom_46 : decode cX4_dueFrom 46 = .ok (.iadd, 1) := by decide +kernel
theorem dX4_dueFrom_47 : decode cX4_dueFrom 47 = .ok (.istore_n 3, 1) := by decide +kernel
theorem dX4_dueFrom_48 : decode cX4_dueFrom 48 = .ok (.iinc 4 1, 3) := by decide +kernel
theorem dX4_dueFrom_51 : decode cX4_dueFrom 51 = .ok (.goto (-46), 3) := by decide +kernel
theorem dX4_dueFrom_54 : decode cX4_dueFrom 54 = .ok (.iload_n 3, 1) := by decide +kernel
theorem dX4_dueFrom_55 : decode cX4_dueFrom 55 = .ok (.ireturn, 1) := by decide +kernel
theorem dX4_rankOf_0 : decode cX4_rankOf 0 = .ok (.aload_n 0, 1) := by decide +kernel
theorem dX4_rankOf_1 : decode cX4_rankOf 1 = .ok (.getfield 14, 3) := by decide +kernel
theorem dX4_rankOf_4 : decode cX4_rankOf 4 = .ok (.iload_n 1, 1) := by decide +kernel
theorem dX4_rankOf_5 : decode cX4_rankOf 5 = .ok (.iconst 2, 1) := by decide +kernel
theorem dX4_rankOf_6 : decode cX4_rankOf 6 = .ok (.invokevirtual 42, 3) := by decide +kernel
theorem dX4_rankOf_9 : decode cX4_rankOf 9 = .ok (.istore_n 2, 1) := by decide +kernel
theorem dX4_rankOf_10 : decode cX4_rankOf 10 = .ok (.iload_n 2, 1) := by decide +kernel
theorem dX4_rankOf_11 : decode cX4_rankOf 11 = .ok (.ifCond .ne 12, 3) := by decide +kernel
theorem dX4_rankOf_14 : decode cX4_rankOf 14 = .ok (.aload_n 0, 1) := by decide +kernel
theorem dX4_rankOf_15 : decode cX4_rankOf 15 = .ok (.iconst 0, 1) := by decide +kernel
theorem dX4_rankOf_16 : decode cX4_rankOf 16 = .ok (.iconst 1, 1) := by decide +kernel
theorem dX4_rankOf_17 : decode cX4_rankOf 17 = .ok (.invokevirtual 59, 3) := by decide +kernel
theorem dX4_rankOf_20 : decode cX4_rankOf 20 = .ok (.goto 4, 3) := by decide +kernel
theorem dX4_rankOf_23 : decode cX4_rankOf 23 = .ok (.iconst 0, 1) := by decide +kernel
theorem dX4_rankOf_24 : decode cX4_rankOf 24 = .ok (.istore_n 3, 1) := by decide +kernel
theorem dX4_rankOf_25 : decode cX4_rankOf 25 = .ok (.iload_n 3, 1) := by decide +kernel
theorem dX4_rankOf_26 : decode cX4_rankOf 26 = .ok (.aload_n 0, 1) := by decide +kernel
theorem dX4_rankOf_27 : decode cX4_rankOf 27 = .ok (.iload_n 1, 1) := by decide +kernel
theorem dX4_rankOf_28 : decode cX4_rankOf 28 = .ok (.iconst 1, 1) := by decide +kernel
theorem dX4_rankOf_29 : decode cX4_rankOf 29 = .ok (.iadd, 1) := by decide +kernel
theorem dX4_rankOf_30 : decode cX4_rankOf 30 = .ok (.iload_n 2, 1) := by decide +kernel
theorem dX4_rankOf_31 : decode cX4_rankOf 31 = .ok (.invokevirtual 59, 3) := by decide +kernel
theorem dX4_rankOf_34 : decode cX4_rankOf 34 = .ok (.iadd, 1) := by decide +kernel
theorem dX4_rankOf_35 : decode cX4_rankOf 35 = .ok (.ireturn, 1) := by decide +kernel
theorem dX4_paidOf_0 : decode cX4_paidOf 0 = .ok (.aload_n 0, 1) := by decide +kernel
theorem dX4_paidOf_1 : decode cX4_paidOf 1 = .ok (.getfield 14, 3) := by decide +kernel
theorem dX4_paidOf_4 : decode cX4_paidOf 4 = .ok (.iload_n 1, 1) := by decide +kernel
theorem dX4_paidOf_5 : decode cX4_paidOf 5 = .ok (.iconst 2, 1) := by decide +kernel
theorem dX4_paidOf_6 : decode cX4_paidOf 6 = .ok (.invokevirtual 42, 3) := by decide +kernel
theorem dX4_paidOf_9 : decode cX4_paidOf 9 = .ok (.istore 4, 2) := by decide +kernel
theorem dX4_paidOf_11 : decode cX4_paidOf 11 = .ok (.iload 4, 2) := by decide +kernel
theorem dX4_paidOf_13 : decode cX4_paidOf 13 = .ok (.iconst 1, 1) := by decide +kernel
theorem dX4_paidOf_14 : decode cX4_paidOf 14 = .ok (.if_icmp .ne 7, 3) := by decide +kernel
theorem dX4_paidOf_17 : decode cX4_paidOf 17 = .ok (.iload_n 3, 1) := by decide +kernel
theorem dX4_paidOf_18 : decode cX4_paidOf 18 = .ok (.goto 4, 3) := by decide +kernel
theorem dX4_paidOf_21 : decode cX4_paidOf 21 = .ok (.iload_n 2, 1) := by decide +kernel
theorem dX4_paidOf_22 : decode cX4_paidOf 22 = .ok (.istore 5, 2) := by decide +kernel
theorem dX4_paidOf_24 : decode cX4_paidOf 24 = .ok (.iload 5, 2) := by decide +kernel
theorem dX4_paidOf_26 : decode cX4_paidOf 26 = .ok (.aload_n 0, 1) := by decide +kernel
theorem dX4_paidOf_27 : decode cX4_paidOf 27 = .ok (.iload_n 1, 1) := by decide +kernel
theorem dX4_paidOf_28 : decode cX4_paidOf 28 = .ok (.iconst 1, 1) := by decide +kernel
theorem dX4_paidOf_29 : decode cX4_paidOf 29 = .ok (.iadd, 1) := by decide +kernel
theorem dX4_paidOf_30 : decode cX4_paidOf 30 = .ok (.iload 4, 2) := by decide +kernel
theorem dX4_paidOf_32 : decode cX4_paidOf 32 = .ok (.invokevirtual 62, 3) := by decide +kernel
theorem dX4_paidOf_35 : decode cX4_paidOf 35 = .ok (.isub, 1) := by decide +kernel
theorem dX4_paidOf_36 : decode cX4_paidOf 36 = .ok (.istore 6, 2) := by decide +kernel
theorem dX4_paidOf_38 : decode cX4_paidOf 38 = .ok (.iconst 0, 1) := by decide +kernel
theorem dX4_paidOf_39 : decode cX4_paidOf 39 = .ok (.iload 6, 2) := by decide +kernel
theorem dX4_paidOf_41 : decode cX4_paidOf 41 = .ok (.aload_n 0, 1) := by decide +kernel
theorem dX4_paidOf_42 : decode cX4_paidOf 42 = .ok (.getfield 14, 3) := by decide +kernel
theorem dX4_paidOf_45 : decode cX4_paidOf 45 = .ok (.iload_n 1, 1) := by decide +kernel
theorem dX4_paidOf_46 : decode cX4_paidOf 46 = .ok (.iconst 3, 1) := by decide +kernel
theorem dX4_paidOf_47 : decode cX4_paidOf 47 = .ok (.invokevirtual 42, 3) := by decide +kernel
theorem dX4_paidOf_50 : decode cX4_paidOf 50 = .ok (.invokestatic 65, 3) := by decide +kernel
theorem dX4_paidOf_53 : decode cX4_paidOf 53 = .ok (.invokestatic 50, 3) := by decide +kernel
theorem dX4_paidOf_56 : decode cX4_paidOf 56 = .ok (.ireturn, 1) := by decide +kernel
theorem dX4_countFrom_0 : decode cX4_countFrom 0 = .ok (.iconst 0, 1) := by decide +kernel
theorem dX4_countFrom_1 : decode cX4_countFrom 1 = .ok (.istore_n 3, 1) := by decide +kernel
theorem dX4_countFrom_2 : decode cX4_countFrom 2 = .ok (.iload_n 1, 1) := by decide +kernel
theorem dX4_countFrom_3 : decode cX4_countFrom 3 = .ok (.istore 4, 2) := by decide +kernel
theorem dX4_countFrom_5 : decode cX4_countFrom 5 = .ok (.iload 4, 2) := by decide +kernel
theorem dX4_countFrom_7 : decode cX4_countFrom 7 = .ok (.aload_n 0, 1) := by decide +kernel
theorem dX4_countFrom_8 : decode cX4_countFrom 8 = .ok (.getfield 14, 3) := by decide +kernel
theorem dX4_countFrom_11 : decode cX4_countFrom 11 = .ok (.invokevirtual 55, 3) := by decide +kernel
theorem dX4_countFrom_14 : decode cX4_countFrom 14 = .ok (.if_icmp .ge 31, 3) := by decide +kernel
theorem dX4_countFrom_17 : decode cX4_countFrom 17 = .ok (.iload_n 3, 1) := by decide +kernel
theorem dX4_countFrom_18 : decode cX4_countFrom 18 = .ok (.aload_n 0, 1) := by decide +kernel
theorem dX4_countFrom_19 : decode cX4_countFrom 19 = .ok (.getfield 14, 3) := by decide +kernel
theorem dX4_countFrom_22 : decode cX4_countFrom 22 = .ok (.iload 4, 2) := by decide +kernel
theorem dX4_countFrom_24 : decode cX4_countFrom 24 = .ok (.iconst 2, 1) := by decide +kernel
theorem dX4_countFrom_25 : decode cX4_countFrom 25 = .ok (.invokevirtual 42, 3) := by decide +kernel
theorem dX4_countFrom_28 : decode cX4_countFrom 28 = .ok (.iload_n 2, 1) := by decide +kernel
theorem dX4_countFrom_29 : decode cX4_countFrom 29 = .ok (.if_icmp .ne 7, 3) := by decide +kernel
theorem dX4_countFrom_32 : decode cX4_countFrom 32 = .ok (.iconst 1, 1) := by decide +kernel
theorem dX4_countFrom_33 : decode cX4_countFrom 33 = .ok (.goto 4, 3) := by decide +kernel
theorem dX4_countFrom_36 : decode cX4_countFrom 36 = .ok (.iconst 0, 1) := by decide +kernel
theorem dX4_countFrom_37 : decode cX4_countFrom 37 = .ok (.iadd, 1) := by decide +kernel
theorem dX4_countFrom_38 : decode cX4_countFrom 38 = .ok (.istore_n 3, 1) := by decide +kernel
theorem dX4_countFrom_39 : decode cX4_countFrom 39 = .ok (.iinc 4 1, 3) := by decide +kernel
theorem dX4_countFrom_42 : decode cX4_countFrom 42 = .ok (.goto (-37), 3) := by decide +kernel
theorem dX4_countFrom_45 : decode cX4_countFrom 45 = .ok (.iload_n 3, 1) := by decide +kernel
theorem dX4_countFrom_46 : decode cX4_countFrom 46 = .ok (.ireturn, 1) := by decide +kernel
theorem dX5_init_0 : decode cX5_init 0 = .ok (.aload_n 0, 1) := by decide +kernel
theorem dX5_init_1 : decode cX5_init 1 = .ok (.invokespecial 3, 3) := by decide +kernel
theorem dX5_init_4 : decode cX5_init 4 = .ok (.aload_n 0, 1) := by decide +kernel
theorem dX5_init_5 : decode cX5_init 5 = .ok (.iconst 0, 1) := by decide +kernel
theorem dX5_init_6 : decode cX5_init 6 = .ok (.putfield 9, 3) := by decide +kernel
theorem dX5_init_9 : decode cX5_init 9 = .ok (.aload_n 0, 1) := by decide +kernel
theorem dX5_init_10 : decode cX5_init 10 = .ok (.iload_n 1, 1) := by decide +kernel
theorem dX5_init_11 : decode cX5_init 11 = .ok (.putfield 15, 3) := by decide +kernel
theorem dX5_init_14 : decode cX5_init 14 = .ok (.aload_n 0, 1) := by decide +kernel
theorem dX5_init_15 : decode cX5_init 15 = .ok (.iload_n 2, 1) := by decide +kernel
theorem dX5_init_16 : decode cX5_init 16 = .ok (.putfield 18, 3) := by decide +kernel
theorem dX5_init_19 : decode cX5_init 19 = .ok (.aload_n 0, 1) := by decide +kernel
theorem dX5_init_20 : decode cX5_init 20 = .ok (.iconst 0, 1) := by decide +kernel
theorem dX5_init_21 : decode cX5_init 21 = .ok (.iload_n 1, 1) := by decide +kernel
theorem dX5_init_22 : decode cX5_init 22 = .ok (.iload_n 2, 1) := by decide +kernel
theorem dX5_init_23 : decode cX5_init 23 = .ok (.imul, 1) := by decide +kernel
theorem dX5_init_24 : decode cX5_init 24 = .ok (.invokestatic 21, 3) := by decide +kernel
theorem dX5_init_27 : decode cX5_init 27 = .ok (.newarray .int, 2) := by decide +kernel
theorem dX5_init_29 : decode cX5_init 29 = .ok (.putfield 27, 3) := by decide +kernel
theorem dX5_init_32 : decode cX5_init 32 = .ok (.return_, 1) := by decide +kernel
theorem dX5_width_0 : decode cX5_width 0 = .ok (.aload_n 0, 1) := by decide +kernel
theorem dX5_width_1 : decode cX5_width 1 = .ok (.getfield 15, 3) := by decide +kernel
theorem dX5_width_4 : decode cX5_width 4 = .ok (.ireturn, 1) := by decide +kernel
theorem dX5_rows_0 : decode cX5_rows 0 = .ok (.aload_n 0, 1) := by decide +kernel
theorem dX5_rows_1 : decode cX5_rows 1 = .ok (.getfield 9, 3) := by decide +kernel
theorem dX5_rows_4 : decode cX5_rows 4 = .ok (.ireturn, 1) := by decide +kernel
theorem dX5_has_0 : decode cX5_has 0 = .ok (.iload_n 1, 1) := by decide +kernel
theorem dX5_has_1 : decode cX5_has 1 = .ok (.ifCond .lt 15, 3) := by decide +kernel
theorem dX5_has_4 : decode cX5_has 4 = .ok (.iload_n 1, 1) := by decide +kernel
theorem dX5_has_5 : decode cX5_has 5 = .ok (.aload_n 0, 1) := by decide +kernel
theorem dX5_has_6 : decode cX5_has 6 = .ok (.getfield 9, 3) := by decide +kernel
theorem dX5_has_9 : decode cX5_has 9 = .ok (.if_icmp .ge 7, 3) := by decide +kernel
theorem dX5_has_12 : decode cX5_has 12 = .ok (.iconst 1, 1) := by decide +kernel
theorem dX5_has_13 : decode cX5_has 13 = .ok (.goto 4, 3) := by decide +kernel
theorem dX5_has_16 : decode cX5_has 16 = .ok (.iconst 0, 1) := by decide +kernel
theorem dX5_has_17 : decode cX5_has 17 = .ok (.ireturn, 1) := by decide +kernel
theorem dX5_isFull_0 : decode cX5_isFull 0 = .ok (.aload_n 0, 1) := by decide +kernel
theorem dX5_isFull_1 : decode cX5_isFull 1 = .ok (.getfield 9, 3) := by decide +kernel
theorem dX5_isFull_4 : decode cX5_isFull 4 = .ok (.aload_n 0, 1) := by decide +kernel
theorem dX5_isFull_5 : decode cX5_isFull 5 = .ok (.getfield 18, 3) := by decide +kernel
theorem dX5_isFull_8 : decode cX5_isFull 8 = .ok (.if_icmp .lt 7, 3) := by decide +kernel
theorem dX5_isFull_11 : decode cX5_isFull 11 = .ok (.iconst 1, 1) := by decide +kernel
theorem dX5_isFull_12 : decode cX5_isFull 12 = .ok (.goto 4, 3) := by decide +kernel
theorem dX5_isFull_15 : decode cX5_isFull 15 = .ok (.iconst 0, 1) := by decide +kernel
theorem dX5_isFull_16 : decode cX5_isFull 16 = .ok (.ireturn, 1) := by decide +kernel
theorem dX5_clear_0 : decode cX5_clear 0 = .ok (.aload_n 0, 1) := by decide +kernel
theorem dX5_clear_1 : decode cX5_clear 1 = .ok (.iconst 0, 1) := by decide +kernel
theorem dX5_clear_2 : decode cX5_clear 2 = .ok (.putfield 9, 3) := by decide +kernel
theorem dX5_clear_5 : decode cX5_clear 5 = .ok (.return_, 1) := by decide +kernel
theorem dX5_get_0 : decode cX5_get 0 = .ok (.aload_n 0, 1) := by decide +kernel
theorem dX5_get_1 : decode cX5_get 1 = .ok (.iload_n 1, 1) := by decide +kernel
theorem dX5_get_2 : decode cX5_get 2 = .ok (.iload_n 2, 1) := by decide +kernel
theorem dX5_get_3 : decode cX5_get 3 = .ok (.invokevirtual 31, 3) := by decide +kernel
theorem dX5_get_6 : decode cX5_get 6 = .ok (.istore_n 3, 1) := by decide +kernel
theorem dX5_get_7 : decode cX5_get 7 = .ok (.iload_n 3, 1) := by decide +kernel
theorem dX5_get_8 : decode cX5_get 8 = .ok (.ifCond .lt 21, 3) := by decide +kernel
theorem dX5_get_11 : decode cX5_get 11 = .ok (.iload_n 3, 1) := by decide +kernel
theorem dX5_get_12 : decode cX5_get 12 = .ok (.aload_n 0, 1) := by decide +kernel
theorem dX5_get_13 : decode cX5_get 13 = .ok (.getfield 27, 3) := by decide +kernel
theorem dX5_get_16 : decode cX5_get 16 = .ok (.arraylength, 1) := by decide +kernel
theorem dX5_get_17 : decode cX5_get 17 = .ok (.if_icmp .ge 12, 3) := by decide +kernel
theorem dX5_get_20 : decode cX5_get 20 = .ok (.aload_n 0, 1) := by decide +kernel
theorem dX5_get_21 : decode cX5_get 21 = .ok (.getfield 27, 3) := by decide +kernel
theorem dX5_get_24 : decode cX5_get 24 = .ok (.iload_n 3, 1) := by decide +kernel
theorem dX5_get_25 : decode cX5_get 25 = .ok (.iaload, 1) := by decide +kernel
theorem dX5_get_26 : decode cX5_get 26 = .ok (.goto 4, 3) := by decide +kernel
theorem dX5_get_29 : decode cX5_get 29 = .ok (.iconst 0, 1) := by decide +kernel
theorem dX5_get_30 : decode cX5_get 30 = .ok (.ireturn, 1) := by decide +kernel
theorem dX5_set_0 : decode cX5_set 0 = .ok (.aload_n 0, 1) := by decide +kernel
theorem dX5_set_1 : decode cX5_set 1 = .ok (.iload_n 1, 1) := by decide +kernel
theorem dX5_set_2 : decode cX5_set 2 = .ok (.iload_n 2, 1) := by decide +kernel
theorem dX5_set_3 : decode cX5_set 3 = .ok (.invokevirtual 31, 3) := by decide +kernel
theorem dX5_set_6 : decode cX5_set 6 = .ok (.istore 4, 2) := by decide +kernel
theorem dX5_set_8 : decode cX5_set 8 = .ok (.iload 4, 2) := by decide +kernel
theorem dX5_set_10 : decode cX5_set 10 = .ok (.ifCond .lt 21, 3) := by decide +kernel
theorem dX5_set_13 : decode cX5_set 13 = .ok (.iload 4, 2) := by decide +kernel
theorem dX5_set_15 : decode cX5_set 15 = .ok (.aload_n 0, 1) := by decide +kernel
theorem dX5_set_16 : decode cX5_set 16 = .ok (.getfield 27, 3) := by decide +kernel
theorem dX5_set_19 : decode cX5_set 19 = .ok (.arraylength, 1) := by decide +kernel
theorem dX5_set_20 : decode cX5_set 20 = .ok (.if_icmp .ge 11, 3) := by decide +kernel
theorem dX5_set_23 : decode cX5_set 23 = .ok (.aload_n 0, 1) := by decide +kernel
theorem dX5_set_24 : decode cX5_set 24 = .ok (.getfield 27, 3) := by decide +kernel
theorem dX5_set_27 : decode cX5_set 27 = .ok (.iload 4, 2) := by decide +kernel
theorem dX5_set_29 : decode cX5_set 29 = .ok (.iload_n 3, 1) := by decide +kernel
theorem dX5_set_30 : decode cX5_set 30 = .ok (.iastore, 1) := by decide +kernel
theorem dX5_set_31 : decode cX5_set 31 = .ok (.return_, 1) := by decide +kernel
theorem dX5_open_0 : decode cX5_open 0 = .ok (.aload_n 0, 1) := by decide +kernel
theorem dX5_open_1 : decode cX5_open 1 = .ok (.invokevirtual 34, 3) := by decide +kernel
theorem dX5_open_4 : decode cX5_open 4 = .ok (.ifCond .eq 5, 3) := by decide +kernel
theorem dX5_open_7 : decode cX5_open 7 = .ok (.iconst (-1), 1) := by decide +kernel
theorem dX5_open_8 : decode cX5_open 8 = .ok (.ireturn, 1) := by decide +kernel
theorem dX5_open_9 : decode cX5_open 9 = .ok (.aload_n 0, 1) := by decide +kernel
theorem dX5_open_10 : decode cX5_open 10 = .ok (.dup, 1) := by decide +kernel
theorem dX5_open_11 : decode cX5_open 11 = .ok (.getfield 9, 3) := by decide +kernel
theorem dX5_open_14 : decode cX5_open 14 = .ok (.iconst 1, 1) := by decide +kernel
theorem dX5_open_15 : decode cX5_open 15 = .ok (.iadd, 1) := by decide +kernel
theorem dX5_open_16 : decode cX5_open 16 = .ok (.putfield 9, 3) := by decide +kernel
theorem dX5_open_19 : decode cX5_open 19 = .ok (.aload_n 0, 1) := by decide +kernel
theorem dX5_open_20 : decode cX5_open 20 = .ok (.getfield 9, 3) := by decide +kernel
theorem dX5_open_23 : decode cX5_open 23 = .ok (.iconst 1, 1) := by decide +kernel
theorem dX5_open_24 : decode cX5_open 24 = .ok (.isub, 1) := by decide +kernel
theorem dX5_open_25 : decode cX5_open 25 = .ok (.ireturn, 1) := by decide +kernel
theorem dX5_add_0 : decode cX5_add 0 = .ok (.aload_n 0, 1) := by decide +kernel
theorem dX5_add_1 : decode cX5_add 1 = .ok (.aload_n 0, 1) := by decide +kernel
theorem dX5_add_2 : decode cX5_add 2 = .ok (.invokevirtual 38, 3) := by decide +kernel
theorem dX5_add_5 : decode cX5_add 5 = .ok (.iconst 0, 1) := by decide +kernel
theorem dX5_add_6 : decode cX5_add 6 = .ok (.iload_n 1, 1) := by decide +kernel
theorem dX5_add_7 : decode cX5_add 7 = .ok (.invokevirtual 42, 3) := by decide +kernel
theorem dX5_add_10 : decode cX5_add 10 = .ok (.return_, 1) := by decide +kernel
theorem dX5_become_0 : decode cX5_become 0 = .ok (.aload_n 0, 1) := by decide +kernel
theorem dX5_become_1 : decode cX5_become 1 = .ok (.aload_n 1, 1) := by decide +kernel
theorem dX5_become_2 : decode cX5_become 2 = .ok (.getfield 9, 3) := by decide +kernel
theorem dX5_become_5 : decode cX5_become 5 = .ok (.aload_n 0, 1) := by decide +kernel
theorem dX5_become_6 : decode cX5_become 6 = .ok (.getfield 18, 3) := by decide +kernel
theorem dX5_become_9 : decode cX5_become 9 = .ok (.invokestatic 46, 3) := by decide +kernel
theorem dX5_become_12 : decode cX5_become 12 = .ok (.putfield 9, 3) := by decide +kernel
theorem dX5_become_15 : decode cX5_become 15 = .ok (.aload_n 1, 1) := by decide +kernel
theorem dX5_become_16 : decode cX5_become 16 = .ok (.getfield 27, 3) := by decide +kernel
theorem dX5_become_19 : decode cX5_become 19 = .ok (.iconst 0, 1) := by decide +kernel
theorem dX5_become_20 : decode cX5_become 20 = .ok (.aload_n 0, 1) := by decide +kernel
theorem dX5_become_21 : decode cX5_become 21 = .ok (.getfield 27, 3) := by decide +kernel
theorem dX5_become_24 : decode cX5_become 24 = .ok (.iconst 0, 1) := by decide +kernel
theorem dX5_become_25 : decode cX5_become 25 = .ok (.aload_n 1, 1) := by decide +kernel
theorem dX5_become_26 : decode cX5_become 26 = .ok (.getfield 27, 3) := by decide +kernel
theorem dX5_become_29 : decode cX5_become 29 = .ok (.arraylength, 1) := by decide +kernel
theorem dX5_become_30 : decode cX5_become 30 = .ok (.aload_n 0, 1) := by decide +kernel
theorem dX5_become_31 : decode cX5_become 31 = .ok (.getfield 27, 3) := by decide +kernel
theorem dX5_become_34 : decode cX5_become 34 = .ok (.arraylength, 1) := by decide +kernel
theorem dX5_become_35 : decode cX5_become 35 = .ok (.invokestatic 46, 3) := by decide +kernel
theorem dX5_become_38 : decode cX5_become 38 = .ok (.invokestatic 49, 3) := by decide +kernel
theorem dX5_become_41 : decode cX5_become 41 = .ok (.return_, 1) := by decide +kernel
theorem dX5_cellOf_0 : decode cX5_cellOf 0 = .ok (.iload_n 1, 1) := by decide +kernel
theorem dX5_cellOf_1 : decode cX5_cellOf 1 = .ok (.ifCond .lt 27, 3) := by decide +kernel
theorem dX5_cellOf_4 : decode cX5_cellOf 4 = .ok (.iload_n 1, 1) := by decide +kernel
theorem dX5_cellOf_5 : decode cX5_cellOf 5 = .ok (.aload_n 0, 1) := by decide +kernel
theorem dX5_cellOf_6 : decode cX5_cellOf 6 = .ok (.getfield 9, 3) := by decide +kernel
theorem dX5_cellOf_9 : decode cX5_cellOf 9 = .ok (.if_icmp .ge 19, 3) := by decide +kernel
theorem dX5_cellOf_12 : decode cX5_cellOf 12 = .ok (.iload_n 2, 1) := by decide +kernel
theorem dX5_cellOf_13 : decode cX5_cellOf 13 = .ok (.ifCond .lt 15, 3) := by decide +kernel
theorem dX5_cellOf_16 : decode cX5_cellOf 16 = .ok (.iload_n 2, 1) := by decide +kernel
theorem dX5_cellOf_17 : decode cX5_cellOf 17 = .ok (.aload_n 0, 1) := by decide +kernel
theorem dX5_cellOf_18 : decode cX5_cellOf 18 = .ok (.getfield 15, 3) := by decide +kernel
theorem dX5_cellOf_21 : decode cX5_cellOf 21 = .ok (.if_icmp .ge 7, 3) := by decide +kernel
theorem dX5_cellOf_24 : decode cX5_cellOf 24 = .ok (.iconst 1, 1) := by decide +kernel
theorem dX5_cellOf_25 : decode cX5_cellOf 25 = .ok (.goto 4, 3) := by decide +kernel
theorem dX5_cellOf_28 : decode cX5_cellOf 28 = .ok (.iconst 0, 1) := by decide +kernel
theorem dX5_cellOf_29 : decode cX5_cellOf 29 = .ok (.istore_n 3, 1) := by decide +kernel
theorem dX5_cellOf_30 : decode cX5_cellOf 30 = .ok (.iload_n 3, 1) := by decide +kernel
theorem dX5_cellOf_31 : decode cX5_cellOf 31 = .ok (.ifCond .eq 14, 3) := by decide +kernel
theorem dX5_cellOf_34 : decode cX5_cellOf 34 = .ok (.iload_n 1, 1) := by decide +kernel
theorem dX5_cellOf_35 : decode cX5_cellOf 35 = .ok (.aload_n 0, 1) := by decide +kernel
theorem dX5_cellOf_36 : decode cX5_cellOf 36 = .ok (.getfield 15, 3) := by decide +kernel
theorem dX5_cellOf_39 : decode cX5_cellOf 39 = .ok (.imul, 1) := by decide +kernel
theorem dX5_cellOf_40 : decode cX5_cellOf 40 = .ok (.iload_n 2, 1) := by decide +kernel
theorem dX5_cellOf_41 : decode cX5_cellOf 41 = .ok (.iadd, 1) := by decide +kernel
theorem dX5_cellOf_42 : decode cX5_cellOf 42 = .ok (.goto 4, 3) := by decide +kernel
theorem dX5_cellOf_45 : decode cX5_cellOf 45 = .ok (.iconst (-1), 1) := by decide +kernel
theorem dX5_cellOf_46 : decode cX5_cellOf 46 = .ok (.ireturn, 1) := by decide +kernel
theorem dX6_init_0 : decode cX6_init 0 = .ok (.aload_n 0, 1) := by decide +kernel
theorem dX6_init_1 : decode cX6_init 1 = .ok (.invokespecial 3, 3) := by decide +kernel
theorem dX6_init_4 : decode cX6_init 4 = .ok (.aload_n 0, 1) := by decide +kernel
theorem dX6_init_5 : decode cX6_init 5 = .ok (.new 9, 3) := by decide +kernel
theorem dX6_init_8 : decode cX6_init 8 = .ok (.dup, 1) := by decide +kernel
theorem dX6_init_9 : decode cX6_init 9 = .ok (.iconst 4, 1) := by decide +kernel
theorem dX6_init_10 : decode cX6_init 10 = .ok (.iconst 1, 1) := by decide +kernel
theorem dX6_init_11 : decode cX6_init 11 = .ok (.invokespecial 11, 3) := by decide +kernel
theorem dX6_init_14 : decode cX6_init 14 = .ok (.putfield 14, 3) := by decide +kernel
theorem dX6_init_17 : decode cX6_init 17 = .ok (.aload_n 0, 1) := by decide +kernel
theorem dX6_init_18 : decode cX6_init 18 = .ok (.new 9, 3) := by decide +kernel
theorem dX6_init_21 : decode cX6_init 21 = .ok (.dup, 1) := by decide +kernel
theorem dX6_init_22 : decode cX6_init 22 = .ok (.iconst 3, 1) := by decide +kernel
theorem dX6_init_23 : decode cX6_init 23 = .ok (.bipush 7, 2) := by decide +kernel
theorem dX6_init_25 : decode cX6_init 25 = .ok (.invokespecial 11, 3) := by decide +kernel
theorem dX6_init_28 : decode cX6_init 28 = .ok (.putfield 20, 3) := by decide +kernel
theorem dX6_init_31 : decode cX6_init 31 = .ok (.aload_n 0, 1) := by decide +kernel
theorem dX6_init_32 : decode cX6_init 32 = .ok (.new 9, 3) := by decide +kernel
theorem dX6_init_35 : decode cX6_init 35 = .ok (.dup, 1) := by decide +kernel
theorem dX6_init_36 : decode cX6_init 36 = .ok (.iconst 2, 1) := by decide +kernel
theorem dX6_init_37 : decode cX6_init 37 = .ok (.iconst 5, 1) := by decide +kernel
theorem dX6_init_38 : decode cX6_init 38 = .ok (.invokespecial 11, 3) := by decide +kernel
theorem dX6_init_41 : decode cX6_init 41 = .ok (.putfield 23, 3) := by decide +kernel
theorem dX6_init_44 : decode cX6_init 44 = .ok (.return_, 1) := by decide +kernel
theorem dX6_clear_0 : decode cX6_clear 0 = .ok (.aload_n 0, 1) := by decide +kernel
theorem dX6_clear_1 : decode cX6_clear 1 = .ok (.getfield 14, 3) := by decide +kernel
theorem dX6_clear_4 : decode cX6_clear 4 = .ok (.invokevirtual 26, 3) := by decide +kernel
theorem dX6_clear_7 : decode cX6_clear 7 = .ok (.aload_n 0, 1) := by decide +kernel
theorem dX6_clear_8 : decode cX6_clear 8 = .ok (.getfield 20, 3) := by decide +kernel
theorem dX6_clear_11 : decode cX6_clear 11 = .ok (.invokevirtual 26, 3) := by decide +kernel
theorem dX6_clear_14 : decode cX6_clear 14 = .ok (.aload_n 0, 1) := by decide +kernel
theorem dX6_clear_15 : decode cX6_clear 15 = .ok (.getfield 23, 3) := by decide +kernel
theorem dX6_clear_18 : decode cX6_clear 18 = .ok (.invokevirtual 26, 3) := by decide +kernel
theorem dX6_clear_21 : decode cX6_clear 21 = .ok (.return_, 1) := by decide +kernel
theorem dX6_become_0 : decode cX6_become 0 = .ok (.aload_n 0, 1) := by decide +kernel
theorem dX6_become_1 : decode cX6_become 1 = .ok (.getfield 14, 3) := by decide +kernel
theorem dX6_become_4 : decode cX6_become 4 = .ok (.aload_n 1, 1) := by decide +kernel
theorem dX6_become_5 : decode cX6_become 5 = .ok (.getfield 14, 3) := by decide +kernel
theorem dX6_become_8 : decode cX6_become 8 = .ok (.invokevirtual 29, 3) := by decide +kernel
theorem dX6_become_11 : decode cX6_become 11 = .ok (.aload_n 0, 1) := by decide +kernel
theorem dX6_become_12 : decode cX6_become 12 = .ok (.getfield 20, 3) := by decide +kernel
theorem dX6_become_15 : decode cX6_become 15 = .ok (.aload_n 1, 1) := by decide +kernel
theorem dX6_become_16 : decode cX6_become 16 = .ok (.getfield 20, 3) := by decide +kernel
theorem dX6_become_19 : decode cX6_become 19 = .ok (.invokevirtual 29, 3) := by decide +kernel
theorem dX6_become_22 : decode cX6_become 22 = .ok (.aload_n 0, 1) := by decide +kernel
theorem dX6_become_23 : decode cX6_become 23 = .ok (.getfield 23, 3) := by decide +kernel
theorem dX6_become_26 : decode cX6_become 26 = .ok (.aload_n 1, 1) := by decide +kernel
theorem dX6_become_27 : decode cX6_become 27 = .ok (.getfield 23, 3) := by decide +kernel
theorem dX6_become_30 : decode cX6_become 30 = .ok (.invokevirtual 29, 3) := by decide +kernel
theorem dX6_become_33 : decode cX6_become 33 = .ok (.return_, 1) := by decide +kernel
theorem dX6_oddsOf_0 : decode cX6_oddsOf 0 = .ok (.bipush 9, 2) := by decide +kernel
theorem dX6_oddsOf_2 : decode cX6_oddsOf 2 = .ok (.iload_n 2, 1) := by decide +kernel
theorem dX6_oddsOf_3 : decode cX6_oddsOf 3 = .ok (.isub, 1) := by decide +kernel
theorem dX6_oddsOf_4 : decode cX6_oddsOf 4 = .ok (.istore_n 3, 1) := by decide +kernel
theorem dX6_oddsOf_5 : decode cX6_oddsOf 5 = .ok (.bipush 100, 2) := by decide +kernel
theorem dX6_oddsOf_7 : decode cX6_oddsOf 7 = .ok (.aload_n 0, 1) := by decide +kernel
theorem dX6_oddsOf_8 : decode cX6_oddsOf 8 = .ok (.getfield 20, 3) := by decide +kernel
theorem dX6_oddsOf_11 : decode cX6_oddsOf 11 = .ok (.iload_n 1, 1) := by decide +kernel
theorem dX6_oddsOf_12 : decode cX6_oddsOf 12 = .ok (.iconst 0, 1) := by decide +kernel
theorem dX6_oddsOf_13 : decode cX6_oddsOf 13 = .ok (.invokevirtual 33, 3) := by decide +kernel
theorem dX6_oddsOf_16 : decode cX6_oddsOf 16 = .ok (.aload_n 0, 1) := by decide +kernel
theorem dX6_oddsOf_17 : decode cX6_oddsOf 17 = .ok (.getfield 20, 3) := by decide +kernel
theorem dX6_oddsOf_20 : decode cX6_oddsOf 20 = .ok (.iload_n 1, 1) := by decide +kernel
theorem dX6_oddsOf_21 : decode cX6_oddsOf 21 = .ok (.iconst 1, 1) := by decide +kernel
theorem dX6_oddsOf_22 : decode cX6_oddsOf 22 = .ok (.invokevirtual 33, 3) := by decide +kernel
theorem dX6_oddsOf_25 : decode cX6_oddsOf 25 = .ok (.iload_n 3, 1) := by decide +kernel
theorem dX6_oddsOf_26 : decode cX6_oddsOf 26 = .ok (.imul, 1) := by decide +kernel
theorem dX6_oddsOf_27 : decode cX6_oddsOf 27 = .ok (.iadd, 1) := by decide +kernel
theorem dX6_oddsOf_28 : decode cX6_oddsOf 28 = .ok (.invokestatic 37, 3) := by decide +kernel
theorem dX6_oddsOf_31 : decode cX6_oddsOf 31 = .ok (.ireturn, 1) := by decide +kernel
theorem dX6_comeThrough_0 : decode cX6_comeThrough 0 = .ok (.iload_n 3, 1) := by decide +kernel
theorem dX6_comeThrough_1 : decode cX6_comeThrough 1 = .ok (.bipush 100, 2) := by decide +kernel
theorem dX6_comeThrough_3 : decode cX6_comeThrough 3 = .ok (.aload_n 0, 1) := by decide +kernel
theorem dX6_comeThrough_4 : decode cX6_comeThrough 4 = .ok (.iload_n 1, 1) := by decide +kernel
theorem dX6_comeThrough_5 : decode cX6_comeThrough 5 = .ok (.iload_n 2, 1) := by decide +kernel
theorem dX6_comeThrough_6 : decode cX6_comeThrough 6 = .ok (.invokevirtual 42, 3) := by decide +kernel
theorem dX6_comeThrough_9 : decode cX6_comeThrough 9 = .ok (.isub, 1) := by decide +kernel
theorem dX6_comeThrough_10 : decode cX6_comeThrough 10 = .ok (.imul, 1) := by decide +kernel
theorem dX6_comeThrough_11 : decode cX6_comeThrough 11 = .ok (.bipush 100, 2) := by decide +kernel
theorem dX6_comeThrough_13 : decode cX6_comeThrough 13 = .ok (.idiv, 1) := by decide +kernel
theorem dX6_comeThrough_14 : decode cX6_comeThrough 14 = .ok (.ireturn, 1) := by decide +kernel
theorem dX6_chanceThrough_0 : decode cX6_chanceThrough 0 = .ok (.ldc 45, 2) := by decide +kernel
theorem dX6_chanceThrough_2 : decode cX6_chanceThrough 2 = .ok (.istore 4, 2) := by decide +kernel
theorem dX6_chanceThrough_4 : decode cX6_chanceThrough 4 = .ok (.iload_n 3, 1) := by decide +kernel
theorem dX6_chanceThrough_5 : decode cX6_chanceThrough 5 = .ok (.istore 5, 2) := by decide +kernel
theorem dX6_chanceThrough_7 : decode cX6_chanceThrough 7 = .ok (.iload_n 1, 1) := by decide +kernel
theorem dX6_chanceThrough_8 : decode cX6_chanceThrough 8 = .ok (.istore 6, 2) := by decide +kernel
theorem dX6_chanceThrough_10 : decode cX6_chanceThrough 10 = .ok (.iload 6, 2) := by decide +kernel
theorem dX6_chanceThrough_12 : decode cX6_chanceThrough 12 = .ok (.iload_n 2, 1) := by decide +kernel
theorem dX6_chanceThrough_13 : decode cX6_chanceThrough 13 = .ok (.if_icmp .ge 31, 3) := by decide +kernel
theorem dX6_chanceThrough_16 : decode cX6_chanceThrough 16 = .ok (.aload_n 0, 1) := by decide +kernel
theorem dX6_chanceThrough_17 : decode cX6_chanceThrough 17 = .ok (.iload 6, 2) := by decide +kernel
theorem dX6_chanceThrough_19 : decode cX6_chanceThrough 19 = .ok (.iload 5, 2) := by decide +kernel
theorem dX6_chanceThrough_21 : decode cX6_chanceThrough 21 = .ok (.iload 4, 2) := by decide +kernel
theorem dX6_chanceThrough_23 : decode cX6_chanceThrough 23 = .ok (.invokevirtual 46, 3) := by decide +kernel
theorem dX6_chanceThrough_26 : decode cX6_chanceThrough 26 = .ok (.istore 4, 2) := by decide +kernel
theorem dX6_chanceThrough_28 : decode cX6_chanceThrough 28 = .ok (.iconst 0, 1) := by decide +kernel
theorem dX6_chanceThrough_29 : decode cX6_chanceThrough 29 = .ok (.iload 5, 2) := by decide +kernel
theorem dX6_chanceThrough_31 : decode cX6_chanceThrough 31 = .ok (.iconst 1, 1) := by decide +kernel
theorem dX6_chanceThrough_32 : decode cX6_chanceThrough 32 = .ok (.isub, 1) := by decide +kernel
theorem dX6_chanceThrough_33 : decode cX6_chanceThrough 33 = .ok (.invokestatic 50, 3) := by decide +kernel
theorem dX6_chanceThrough_36 : decode cX6_chanceThrough 36 = .ok (.istore 5, 2) := by decide +kernel
theorem dX6_chanceThrough_38 : decode cX6_chanceThrough 38 = .ok (.iinc 6 1, 3) := by decide +kernel
theorem dX6_chanceThrough_41 : decode cX6_chanceThrough 41 = .ok (.goto (-31), 3) := by decide +kernel
theorem dX6_chanceThrough_44 : decode cX6_chanceThrough 44 = .ok (.iload 4, 2) := by decide +kernel
theorem dX6_chanceThrough_46 : decode cX6_chanceThrough 46 = .ok (.ireturn, 1) := by decide +kernel
theorem dX6_dueOf_0 : decode cX6_dueOf 0 = .ok (.iload_n 2, 1) := by decide +kernel
theorem dX6_dueOf_1 : decode cX6_dueOf 1 = .ok (.iload_n 2, 1) := by decide +kernel
theorem dX6_dueOf_2 : decode cX6_dueOf 2 = .ok (.aload_n 0, 1) := by decide +kernel
theorem dX6_dueOf_3 : decode cX6_dueOf 3 = .ok (.getfield 23, 3) := by decide +kernel
theorem dX6_dueOf_6 : decode cX6_dueOf 6 = .ok (.iload_n 1, 1) := by decide +kernel
theorem dX6_dueOf_7 : decode cX6_dueOf 7 = .ok (.iconst 1, 1) := by decide +kernel
theorem dX6_dueOf_8 : decode cX6_dueOf 8 = .ok (.invokevirtual 33, 3) := by decide +kernel
theorem dX6_dueOf_11 : decode cX6_dueOf 11 = .ok (.imul, 1) := by decide +kernel
theorem dX6_dueOf_12 : decode cX6_dueOf 12 = .ok (.bipush 100, 2) := by decide +kernel
theorem dX6_dueOf_14 : decode cX6_dueOf 14 = .ok (.idiv, 1) := by decide +kernel
theorem dX6_dueOf_15 : decode cX6_dueOf 15 = .ok (.iadd, 1) := by decide +kernel
theorem dX6_dueOf_16 : decode cX6_dueOf 16 = .ok (.ireturn, 1) := by decide +kernel
end
section
theorem dX7_init_0 : decode cX7_init 0 = .ok (.aload_n 0, 1) := by decide +kernel
theorem dX7_init_1 : decode cX7_init 1 = .ok (.invokespecial 1, 3) := by decide +kernel
theorem dX7_init_4 : decode cX7_init 4 = .ok (.aload_n 0, 1) := by decide +kernel
theorem dX7_init_5 : decode cX7_init 5 = .ok (.new 7, 3) := by decide +kernel
theorem dX7_init_8 : decode cX7_init 8 = .ok (.dup, 1) := by decide +kernel
theorem dX7_init_9 : decode cX7_init 9 = .ok (.iconst 1, 1) := by decide +kernel
theorem dX7_init_10 : decode cX7_init 10 = .ok (.sipush 220, 3) := by decide +kernel
theorem dX7_init_13 : decode cX7_init 13 = .ok (.invokespecial 11, 3) := by decide +kernel
theorem dX7_init_16 : decode cX7_init 16 = .ok (.putfield 14, 3) := by decide +kernel
theorem dX7_init_19 : decode cX7_init 19 = .ok (.aload_n 0, 1) := by decide +kernel
theorem dX7_init_20 : decode cX7_init 20 = .ok (.new 18, 3) := by decide +kernel
theorem dX7_init_23 : decode cX7_init 23 = .ok (.dup, 1) := by decide +kernel
theorem dX7_init_24 : decode cX7_init 24 = .ok (.aload_n 0, 1) := by decide +kernel
theorem dX7_init_25 : decode cX7_init 25 = .ok (.getfield 14, 3) := by decide +kernel
theorem dX7_init_28 : decode cX7_init 28 = .ok (.invokespecial 20, 3) := by decide +kernel
theorem dX7_init_31 : decode cX7_init 31 = .ok (.putfield 23, 3) := by decide +kernel
theorem dX7_init_34 : decode cX7_init 34 = .ok (.aload_n 0, 1) := by decide +kernel
theorem dX7_init_35 : decode cX7_init 35 = .ok (.new 27, 3) := by decide +kernel
theorem dX7_init_38 : decode cX7_init 38 = .ok (.dup, 1) := by decide +kernel
theorem dX7_init_39 : decode cX7_init 39 = .ok (.invokespecial 29, 3) := by decide +kernel
theorem dX7_init_42 : decode cX7_init 42 = .ok (.putfield 30, 3) := by decide +kernel
theorem dX7_init_45 : decode cX7_init 45 = .ok (.aload_n 0, 1) := by decide +kernel
theorem dX7_init_46 : decode cX7_init 46 = .ok (.new 34, 3) := by decide +kernel
theorem dX7_init_49 : decode cX7_init 49 = .ok (.dup, 1) := by decide +kernel
theorem dX7_init_50 : decode cX7_init 50 = .ok (.invokespecial 36, 3) := by decide +kernel
theorem dX7_init_53 : decode cX7_init 53 = .ok (.putfield 37, 3) := by decide +kernel
theorem dX7_init_56 : decode cX7_init 56 = .ok (.aload_n 0, 1) := by decide +kernel
theorem dX7_init_57 : decode cX7_init 57 = .ok (.new 41, 3) := by decide +kernel
theorem dX7_init_60 : decode cX7_init 60 = .ok (.dup, 1) := by decide +kernel
theorem dX7_init_61 : decode cX7_init 61 = .ok (.invokespecial 43, 3) := by decide +kernel
theorem dX7_init_64 : decode cX7_init 64 = .ok (.putfield 44, 3) := by decide +kernel
theorem dX7_init_67 : decode cX7_init 67 = .ok (.aload_n 0, 1) := by decide +kernel
theorem dX7_init_68 : decode cX7_init 68 = .ok (.new 48, 3) := by decide +kernel
theorem dX7_init_71 : decode cX7_init 71 = .ok (.dup, 1) := by decide +kernel
theorem dX7_init_72 : decode cX7_init 72 = .ok (.invokespecial 50, 3) := by decide +kernel
theorem dX7_init_75 : decode cX7_init 75 = .ok (.putfield 51, 3) := by decide +kernel
theorem dX7_init_78 : decode cX7_init 78 = .ok (.aload_n 0, 1) := by decide +kernel
theorem dX7_init_79 : decode cX7_init 79 = .ok (.new 48, 3) := by decide +kernel
theorem dX7_init_82 : decode cX7_init 82 = .ok (.dup, 1) := by decide +kernel
theorem dX7_init_83 : decode cX7_init 83 = .ok (.invokespecial 50, 3) := by decide +kernel
theorem dX7_init_86 : decode cX7_init 86 = .ok (.putfield 55, 3) := by decide +kernel
theorem dX7_init_89 : decode cX7_init 89 = .ok (.aload_n 0, 1) := by decide +kernel
theorem dX7_init_90 : decode cX7_init 90 = .ok (.new 58, 3) := by decide +kernel
theorem dX7_init_93 : decode cX7_init 93 = .ok (.dup, 1) := by decide +kernel
theorem dX7_init_94 : decode cX7_init 94 = .ok (.aload_n 0, 1) := by decide +kernel
theorem dX7_init_95 : decode cX7_init 95 = .ok (.getfield 30, 3) := by decide +kernel
theorem dX7_init_98 : decode cX7_init 98 = .ok (.invokespecial 60, 3) := by decide +kernel
theorem dX7_init_101 : decode cX7_init 101 = .ok (.putfield 63, 3) := by decide +kernel
theorem dX7_init_104 : decode cX7_init 104 = .ok (.aload_n 0, 1) := by decide +kernel
theorem dX7_init_105 : decode cX7_init 105 = .ok (.new 7, 3) := by decide +kernel
theorem dX7_init_108 : decode cX7_init 108 = .ok (.dup, 1) := by decide +kernel
theorem dX7_init_109 : decode cX7_init 109 = .ok (.iconst 2, 1) := by decide +kernel
theorem dX7_init_110 : decode cX7_init 110 = .ok (.bipush 6, 2) := by decide +kernel
theorem dX7_init_112 : decode cX7_init 112 = .ok (.invokespecial 11, 3) := by decide +kernel
theorem dX7_init_115 : decode cX7_init 115 = .ok (.putfield 67, 3) := by decide +kernel
theorem dX7_init_118 : decode cX7_init 118 = .ok (.aload_n 0, 1) := by decide +kernel
theorem dX7_init_119 : decode cX7_init 119 = .ok (.new 7, 3) := by decide +kernel
theorem dX7_init_122 : decode cX7_init 122 = .ok (.dup, 1) := by decide +kernel
theorem dX7_init_123 : decode cX7_init 123 = .ok (.iconst 1, 1) := by decide +kernel
theorem dX7_init_124 : decode cX7_init 124 = .ok (.bipush 15, 2) := by decide +kernel
theorem dX7_init_126 : decode cX7_init 126 = .ok (.invokespecial 11, 3) := by decide +kernel
theorem dX7_init_129 : decode cX7_init 129 = .ok (.putfield 70, 3) := by decide +kernel
theorem dX7_init_132 : decode cX7_init 132 = .ok (.aload_n 0, 1) := by decide +kernel
theorem dX7_init_133 : decode cX7_init 133 = .ok (.iconst (-1), 1) := by decide +kernel
theorem dX7_init_134 : decode cX7_init 134 = .ok (.putfield 73, 3) := by decide +kernel
theorem dX7_init_137 : decode cX7_init 137 = .ok (.aload_n 0, 1) := by decide +kernel
theorem dX7_init_138 : decode cX7_init 138 = .ok (.iconst 0, 1) := by decide +kernel
theorem dX7_init_139 : decode cX7_init 139 = .ok (.putfield 77, 3) := by decide +kernel
theorem dX7_init_142 : decode cX7_init 142 = .ok (.return_, 1) := by decide +kernel
theorem dX7_feed_0 : decode cX7_feed 0 = .ok (.iload_n 1, 1) := by decide +kernel
theorem dX7_feed_1 : decode cX7_feed 1 = .ok (.ifCond .lt 10, 3) := by decide +kernel
theorem dX7_feed_4 : decode cX7_feed 4 = .ok (.iload_n 1, 1) := by decide +kernel
theorem dX7_feed_5 : decode cX7_feed 5 = .ok (.sipush 255, 3) := by decide +kernel
theorem dX7_feed_8 : decode cX7_feed 8 = .ok (.if_icmp .le 6, 3) := by decide +kernel
theorem dX7_feed_11 : decode cX7_feed 11 = .ok (.ldc 80, 2) := by decide +kernel
theorem dX7_feed_13 : decode cX7_feed 13 = .ok (.ireturn, 1) := by decide +kernel
theorem dX7_feed_14 : decode cX7_feed 14 = .ok (.aload_n 0, 1) := by decide +kernel
theorem dX7_feed_15 : decode cX7_feed 15 = .ok (.getfield 14, 3) := by decide +kernel
theorem dX7_feed_18 : decode cX7_feed 18 = .ok (.invokevirtual 81, 3) := by decide +kernel
theorem dX7_feed_21 : decode cX7_feed 21 = .ok (.ifCond .eq 6, 3) := by decide +kernel
theorem dX7_feed_24 : decode cX7_feed 24 = .ok (.ldc 85, 2) := by decide +kernel
theorem dX7_feed_26 : decode cX7_feed 26 = .ok (.ireturn, 1) := by decide +kernel
theorem dX7_feed_27 : decode cX7_feed 27 = .ok (.aload_n 0, 1) := by decide +kernel
theorem dX7_feed_28 : decode cX7_feed 28 = .ok (.getfield 14, 3) := by decide +kernel
theorem dX7_feed_31 : decode cX7_feed 31 = .ok (.iload_n 1, 1) := by decide +kernel
theorem dX7_feed_32 : decode cX7_feed 32 = .ok (.invokevirtual 86, 3) := by decide +kernel
theorem dX7_feed_35 : decode cX7_feed 35 = .ok (.aload_n 0, 1) := by decide +kernel
theorem dX7_feed_36 : decode cX7_feed 36 = .ok (.getfield 14, 3) := by decide +kernel
theorem dX7_feed_39 : decode cX7_feed 39 = .ok (.invokevirtual 90, 3) := by decide +kernel
theorem dX7_feed_42 : decode cX7_feed 42 = .ok (.ireturn, 1) := by decide +kernel
theorem dX7_voyage_0 : decode cX7_voyage 0 = .ok (.aload_n 0, 1) := by decide +kernel
theorem dX7_voyage_1 : decode cX7_voyage 1 = .ok (.getfield 23, 3) := by decide +kernel
theorem dX7_voyage_4 : decode cX7_voyage 4 = .ok (.invokevirtual 94, 3) := by decide +kernel
theorem dX7_voyage_7 : decode cX7_voyage 7 = .ok (.istore_n 1, 1) := by decide +kernel
theorem dX7_voyage_8 : decode cX7_voyage 8 = .ok (.aload_n 0, 1) := by decide +kernel
theorem dX7_voyage_9 : decode cX7_voyage 9 = .ok (.aload_n 0, 1) := by decide +kernel
theorem dX7_voyage_10 : decode cX7_voyage 10 = .ok (.getfield 23, 3) := by decide +kernel
theorem dX7_voyage_13 : decode cX7_voyage 13 = .ok (.invokevirtual 97, 3) := by decide +kernel
theorem dX7_voyage_16 : decode cX7_voyage 16 = .ok (.putfield 73, 3) := by decide +kernel
theorem dX7_voyage_19 : decode cX7_voyage 19 = .ok (.aload_n 0, 1) := by decide +kernel
theorem dX7_voyage_20 : decode cX7_voyage 20 = .ok (.getfield 14, 3) := by decide +kernel
theorem dX7_voyage_23 : decode cX7_voyage 23 = .ok (.invokevirtual 100, 3) := by decide +kernel
theorem dX7_voyage_26 : decode cX7_voyage 26 = .ok (.iload_n 1, 1) := by decide +kernel
theorem dX7_voyage_27 : decode cX7_voyage 27 = .ok (.ifCond .eq 8, 3) := by decide +kernel
theorem dX7_voyage_30 : decode cX7_voyage 30 = .ok (.bipush (-10), 2) := by decide +kernel
theorem dX7_voyage_32 : decode cX7_voyage 32 = .ok (.iload_n 1, 1) := by decide +kernel
theorem dX7_voyage_33 : decode cX7_voyage 33 = .ok (.isub, 1) := by decide +kernel
theorem dX7_voyage_34 : decode cX7_voyage 34 = .ok (.ireturn, 1) := by decide +kernel
theorem dX7_voyage_35 : decode cX7_voyage 35 = .ok (.aload_n 0, 1) := by decide +kernel
theorem dX7_voyage_36 : decode cX7_voyage 36 = .ok (.getfield 30, 3) := by decide +kernel
theorem dX7_voyage_39 : decode cX7_voyage 39 = .ok (.aload_n 0, 1) := by decide +kernel
theorem dX7_voyage_40 : decode cX7_voyage 40 = .ok (.getfield 23, 3) := by decide +kernel
theorem dX7_voyage_43 : decode cX7_voyage 43 = .ok (.invokevirtual 103, 3) := by decide +kernel
theorem dX7_voyage_46 : decode cX7_voyage 46 = .ok (.invokevirtual 107, 3) := by decide +kernel
theorem dX7_voyage_49 : decode cX7_voyage 49 = .ok (.aload_n 0, 1) := by decide +kernel
theorem dX7_voyage_50 : decode cX7_voyage 50 = .ok (.getfield 37, 3) := by decide +kernel
theorem dX7_voyage_53 : decode cX7_voyage 53 = .ok (.aload_n 0, 1) := by decide +kernel
theorem dX7_voyage_54 : decode cX7_voyage 54 = .ok (.getfield 30, 3) := by decide +kernel
theorem dX7_voyage_57 : decode cX7_voyage 57 = .ok (.invokevirtual 110, 3) := by decide +kernel
theorem dX7_voyage_60 : decode cX7_voyage 60 = .ok (.aload_n 0, 1) := by decide +kernel
theorem dX7_voyage_61 : decode cX7_voyage 61 = .ok (.getfield 67, 3) := by decide +kernel
theorem dX7_voyage_64 : decode cX7_voyage 64 = .ok (.invokevirtual 100, 3) := by decide +kernel
theorem dX7_voyage_67 : decode cX7_voyage 67 = .ok (.aload_n 0, 1) := by decide +kernel
theorem dX7_voyage_68 : decode cX7_voyage 68 = .ok (.getfield 70, 3) := by decide +kernel
theorem dX7_voyage_71 : decode cX7_voyage 71 = .ok (.invokevirtual 100, 3) := by decide +kernel
theorem dX7_voyage_74 : decode cX7_voyage 74 = .ok (.aload_n 0, 1) := by decide +kernel
theorem dX7_voyage_75 : decode cX7_voyage 75 = .ok (.getfield 51, 3) := by decide +kernel
theorem dX7_voyage_78 : decode cX7_voyage 78 = .ok (.iconst 0, 1) := by decide +kernel
theorem dX7_voyage_79 : decode cX7_voyage 79 = .ok (.putfield 113, 3) := by decide +kernel
theorem dX7_voyage_82 : decode cX7_voyage 82 = .ok (.aload_n 0, 1) := by decide +kernel
theorem dX7_voyage_83 : decode cX7_voyage 83 = .ok (.getfield 55, 3) := by decide +kernel
theorem dX7_voyage_86 : decode cX7_voyage 86 = .ok (.iconst 0, 1) := by decide +kernel
theorem dX7_voyage_87 : decode cX7_voyage 87 = .ok (.putfield 113, 3) := by decide +kernel
theorem dX7_voyage_90 : decode cX7_voyage 90 = .ok (.aload_n 0, 1) := by decide +kernel
theorem dX7_voyage_91 : decode cX7_voyage 91 = .ok (.getfield 44, 3) := by decide +kernel
theorem dX7_voyage_94 : decode cX7_voyage 94 = .ok (.invokevirtual 117, 3) := by decide +kernel
theorem dX7_voyage_97 : decode cX7_voyage 97 = .ok (.aload_n 0, 1) := by decide +kernel
theorem dX7_voyage_98 : decode cX7_voyage 98 = .ok (.getfield 63, 3) := by decide +kernel
theorem dX7_voyage_101 : decode cX7_voyage 101 = .ok (.invokevirtual 118, 3) := by decide +kernel
theorem dX7_voyage_104 : decode cX7_voyage 104 = .ok (.aload_n 0, 1) := by decide +kernel
theorem dX7_voyage_105 : decode cX7_voyage 105 = .ok (.getfield 30, 3) := by decide +kernel
theorem dX7_voyage_108 : decode cX7_voyage 108 = .ok (.getfield 121, 3) := by decide +kernel
theorem dX7_voyage_111 : decode cX7_voyage 111 = .ok (.invokevirtual 90, 3) := by decide +kernel
theorem dX7_voyage_114 : decode cX7_voyage 114 = .ok (.ireturn, 1) := by decide +kernel
theorem dX7_fault_0 : decode cX7_fault 0 = .ok (.aload_n 0, 1) := by decide +kernel
theorem dX7_fault_1 : decode cX7_fault 1 = .ok (.getfield 73, 3) := by decide +kernel
theorem dX7_fault_4 : decode cX7_fault 4 = .ok (.ireturn, 1) := by decide +kernel
theorem dX7_told_0 : decode cX7_told 0 = .ok (.iload_n 1, 1) := by decide +kernel
theorem dX7_told_1 : decode cX7_told 1 = .ok (.tableswitch 243 0 14 #[75, 88, 101, 109, 117, 128, 139, 150, 158, 166, 171, 191, 219, 227, 235], 75) := by decide +kernel
theorem dX7_told_76 : decode cX7_told 76 = .ok (.aload_n 0, 1) := by decide +kernel
theorem dX7_told_77 : decode cX7_told 77 = .ok (.getfield 30, 3) := by decide +kernel
theorem dX7_told_80 : decode cX7_told 80 = .ok (.getfield 124, 3) := by decide +kernel
theorem dX7_told_83 : decode cX7_told 83 = .ok (.iconst 0, 1) := by decide +kernel
theorem dX7_told_84 : decode cX7_told 84 = .ok (.iconst 0, 1) := by decide +kernel
theorem dX7_told_85 : decode cX7_told 85 = .ok (.invokevirtual 127, 3) := by decide +kernel
theorem dX7_told_88 : decode cX7_told 88 = .ok (.ireturn, 1) := by decide +kernel
theorem dX7_told_89 : decode cX7_told 89 = .ok (.aload_n 0, 1) := by decide +kernel
theorem dX7_told_90 : decode cX7_told 90 = .ok (.getfield 30, 3) := by decide +kernel
theorem dX7_told_93 : decode cX7_told 93 = .ok (.getfield 124, 3) := by decide +kernel
theorem dX7_told_96 : decode cX7_told 96 = .ok (.iconst 0, 1) := by decide +kernel
theorem dX7_told_97 : decode cX7_told 97 = .ok (.iconst 1, 1) := by decide +kernel
theorem dX7_told_98 : decode cX7_told 98 = .ok (.invokevirtual 127, 3) := by decide +kernel
theorem dX7_told_101 : decode cX7_told 101 = .ok (.ireturn, 1) := by decide +kernel
theorem dX7_told_102 : decode cX7_told 102 = .ok (.aload_n 0, 1) := by decide +kernel
theorem dX7_told_103 : decode cX7_told 103 = .ok (.getfield 37, 3) := by decide +kernel
theorem dX7_told_106 : decode cX7_told 106 = .ok (.getfield 131, 3) := by decide +kernel
theorem dX7_told_109 : decode cX7_told 109 = .ok (.ireturn, 1) := by decide +kernel
theorem dX7_told_110 : decode cX7_told 110 = .ok (.aload_n 0, 1) := by decide +kernel
theorem dX7_told_111 : decode cX7_told 111 = .ok (.getfield 37, 3) := by decide +kernel
theorem dX7_told_114 : decode cX7_told 114 = .ok (.getfield 134, 3) := by decide +kernel
theorem dX7_told_117 : decode cX7_told 117 = .ok (.ireturn, 1) := by decide +kernel
theorem dX7_told_118 : decode cX7_told 118 = .ok (.aload_n 0, 1) := by decide +kernel
theorem dX7_told_119 : decode cX7_told 119 = .ok (.getfield 30, 3) := by decide +kernel
theorem dX7_told_122 : decode cX7_told 122 = .ok (.getfield 121, 3) := by decide +kernel
theorem dX7_told_125 : decode cX7_told 125 = .ok (.invokevirtual 90, 3) := by decide +kernel
theorem dX7_told_128 : decode cX7_told 128 = .ok (.ireturn, 1) := by decide +kernel
theorem dX7_told_129 : decode cX7_told 129 = .ok (.aload_n 0, 1) := by decide +kernel
theorem dX7_told_130 : decode cX7_told 130 = .ok (.getfield 30, 3) := by decide +kernel
theorem dX7_told_133 : decode cX7_told 133 = .ok (.getfield 137, 3) := by decide +kernel
theorem dX7_told_136 : decode cX7_told 136 = .ok (.invokevirtual 90, 3) := by decide +kernel
theorem dX7_told_139 : decode cX7_told 139 = .ok (.ireturn, 1) := by decide +kernel
theorem dX7_told_140 : decode cX7_told 140 = .ok (.aload_n 0, 1) := by decide +kernel
theorem dX7_told_141 : decode cX7_told 141 = .ok (.getfield 37, 3) := by decide +kernel
theorem dX7_told_144 : decode cX7_told 144 = .ok (.getfield 140, 3) := by decide +kernel
theorem dX7_told_147 : decode cX7_told 147 = .ok (.invokevirtual 90, 3) := by decide +kernel
theorem dX7_told_150 : decode cX7_told 150 = .ok (.ireturn, 1) := by decide +kernel
theorem dX7_told_151 : decode cX7_told 151 = .ok (.aload_n 0, 1) := by decide +kernel
theorem dX7_told_152 : decode cX7_told 152 = .ok (.getfield 14, 3) := by decide +kernel
theorem dX7_told_155 : decode cX7_told 155 = .ok (.invokevirtual 90, 3) := by decide +kernel
theorem dX7_told_158 : decode cX7_told 158 = .ok (.ireturn, 1) := by decide +kernel
theorem dX7_told_159 : decode cX7_told 159 = .ok (.aload_n 0, 1) := by decide +kernel
theorem dX7_told_160 : decode cX7_told 160 = .ok (.getfield 37, 3) := by decide +kernel
theorem dX7_told_163 : decode cX7_told 163 = .ok (.getfield 143, 3) := by decide +kernel
theorem dX7_told_166 : decode cX7_told 166 = .ok (.ireturn, 1) := by decide +kernel
theorem dX7_told_167 : decode cX7_told 167 = .ok (.aload_n 0, 1) := by decide +kernel
theorem dX7_told_168 : decode cX7_told 168 = .ok (.invokevirtual 146, 3) := by decide +kernel
theorem dX7_told_171 : decode cX7_told 171 = .ok (.ireturn, 1) := by decide +kernel
theorem dX7_told_172 : decode cX7_told 172 = .ok (.aload_n 0, 1) := by decide +kernel
theorem dX7_told_173 : decode cX7_told 173 = .ok (.getfield 37, 3) := by decide +kernel
theorem dX7_told_176 : decode cX7_told 176 = .ok (.iconst 0, 1) := by decide +kernel
theorem dX7_told_177 : decode cX7_told 177 = .ok (.iconst 1, 1) := by decide +kernel
theorem dX7_told_178 : decode cX7_told 178 = .ok (.invokevirtual 149, 3) := by decide +kernel
theorem dX7_told_181 : decode cX7_told 181 = .ok (.aload_n 0, 1) := by decide +kernel
theorem dX7_told_182 : decode cX7_told 182 = .ok (.getfield 37, 3) := by decide +kernel
theorem dX7_told_185 : decode cX7_told 185 = .ok (.iconst 0, 1) := by decide +kernel
theorem dX7_told_186 : decode cX7_told 186 = .ok (.iconst 0, 1) := by decide +kernel
theorem dX7_told_187 : decode cX7_told 187 = .ok (.invokevirtual 149, 3) := by decide +kernel
theorem dX7_told_190 : decode cX7_told 190 = .ok (.iadd, 1) := by decide +kernel
theorem dX7_told_191 : decode cX7_told 191 = .ok (.ireturn, 1) := by decide +kernel
theorem dX7_told_192 : decode cX7_told 192 = .ok (.aload_n 0, 1) := by decide +kernel
theorem dX7_told_193 : decode cX7_told 193 = .ok (.invokevirtual 152, 3) := by decide +kernel
theorem dX7_told_196 : decode cX7_told 196 = .ok (.ifCond .eq 7, 3) := by decide +kernel
theorem dX7_told_199 : decode cX7_told 199 = .ok (.iconst 0, 1) := by decide +kernel
theorem dX7_told_200 : decode cX7_told 200 = .ok (.goto 19, 3) := by decide +kernel
theorem dX7_told_203 : decode cX7_told 203 = .ok (.iconst 0, 1) := by decide +kernel
theorem dX7_told_204 : decode cX7_told 204 = .ok (.aload_n 0, 1) := by decide +kernel
theorem dX7_told_205 : decode cX7_told 205 = .ok (.invokevirtual 155, 3) := by decide +kernel
theorem dX7_told_208 : decode cX7_told 208 = .ok (.aload_n 0, 1) := by decide +kernel
theorem dX7_told_209 : decode cX7_told 209 = .ok (.getfield 37, 3) := by decide +kernel
theorem dX7_told_212 : decode cX7_told 212 = .ok (.getfield 134, 3) := by decide +kernel
theorem dX7_told_215 : decode cX7_told 215 = .ok (.iadd, 1) := by decide +kernel
theorem dX7_told_216 : decode cX7_told 216 = .ok (.invokestatic 158, 3) := by decide +kernel
theorem dX7_told_219 : decode cX7_told 219 = .ok (.ireturn, 1) := by decide +kernel
theorem dX7_told_220 : decode cX7_told 220 = .ok (.aload_n 0, 1) := by decide +kernel
theorem dX7_told_221 : decode cX7_told 221 = .ok (.getfield 67, 3) := by decide +kernel
theorem dX7_told_224 : decode cX7_told 224 = .ok (.invokevirtual 90, 3) := by decide +kernel
theorem dX7_told_227 : decode cX7_told 227 = .ok (.ireturn, 1) := by decide +kernel
theorem dX7_told_228 : decode cX7_told 228 = .ok (.aload_n 0, 1) := by decide +kernel
theorem dX7_told_229 : decode cX7_told 229 = .ok (.getfield 70, 3) := by decide +kernel
theorem dX7_told_232 : decode cX7_told 232 = .ok (.invokevirtual 90, 3) := by decide +kernel
theorem dX7_told_235 : decode cX7_told 235 = .ok (.ireturn, 1) := by decide +kernel
theorem dX7_told_236 : decode cX7_told 236 = .ok (.aload_n 0, 1) := by decide +kernel
theorem dX7_told_237 : decode cX7_told 237 = .ok (.getfield 44, 3) := by decide +kernel
theorem dX7_told_240 : decode cX7_told 240 = .ok (.invokevirtual 163, 3) := by decide +kernel
theorem dX7_told_243 : decode cX7_told 243 = .ok (.ireturn, 1) := by decide +kernel
theorem dX7_told_244 : decode cX7_told 244 = .ok (.ldc 80, 2) := by decide +kernel
theorem dX7_told_246 : decode cX7_told 246 = .ok (.ireturn, 1) := by decide +kernel
theorem dX7_leg_0 : decode cX7_leg 0 = .ok (.aload_n 0, 1) := by decide +kernel
theorem dX7_leg_1 : decode cX7_leg 1 = .ok (.getfield 30, 3) := by decide +kernel
theorem dX7_leg_4 : decode cX7_leg 4 = .ok (.getfield 121, 3) := by decide +kernel
theorem dX7_leg_7 : decode cX7_leg 7 = .ok (.iload_n 1, 1) := by decide +kernel
theorem dX7_leg_8 : decode cX7_leg 8 = .ok (.invokevirtual 166, 3) := by decide +kernel
theorem dX7_leg_11 : decode cX7_leg 11 = .ok (.ifCond .ne 6, 3) := by decide +kernel
theorem dX7_leg_14 : decode cX7_leg 14 = .ok (.ldc 170, 2) := by decide +kernel
theorem dX7_leg_16 : decode cX7_leg 16 = .ok (.ireturn, 1) := by decide +kernel
theorem dX7_leg_17 : decode cX7_leg 17 = .ok (.iload_n 2, 1) := by decide +kernel
theorem dX7_leg_18 : decode cX7_leg 18 = .ok (.ifCond .lt 8, 3) := by decide +kernel
theorem dX7_leg_21 : decode cX7_leg 21 = .ok (.iload_n 2, 1) := by decide +kernel
theorem dX7_leg_22 : decode cX7_leg 22 = .ok (.iconst 3, 1) := by decide +kernel
theorem dX7_leg_23 : decode cX7_leg 23 = .ok (.if_icmp .le 6, 3) := by decide +kernel
theorem dX7_leg_26 : decode cX7_leg 26 = .ok (.ldc 80, 2) := by decide +kernel
theorem dX7_leg_28 : decode cX7_leg 28 = .ok (.ireturn, 1) := by decide +kernel
theorem dX7_leg_29 : decode cX7_leg 29 = .ok (.iload_n 2, 1) := by decide +kernel
theorem dX7_leg_30 : decode cX7_leg 30 = .ok (.iconst 3, 1) := by decide +kernel
theorem dX7_leg_31 : decode cX7_leg 31 = .ok (.if_icmp .ne 21, 3) := by decide +kernel
theorem dX7_leg_34 : decode cX7_leg 34 = .ok (.aload_n 0, 1) := by decide +kernel
theorem dX7_leg_35 : decode cX7_leg 35 = .ok (.getfield 30, 3) := by decide +kernel
theorem dX7_leg_38 : decode cX7_leg 38 = .ok (.iload_n 1, 1) := by decide +kernel
theorem dX7_leg_39 : decode cX7_leg 39 = .ok (.aload_n 0, 1) := by decide +kernel
theorem dX7_leg_40 : decode cX7_leg 40 = .ok (.getfield 37, 3) := by decide +kernel
theorem dX7_leg_43 : decode cX7_leg 43 = .ok (.getfield 131, 3) := by decide +kernel
theorem dX7_leg_46 : decode cX7_leg 46 = .ok (.invokevirtual 171, 3) := by decide +kernel
theorem dX7_leg_49 : decode cX7_leg 49 = .ok (.goto 15, 3) := by decide +kernel
theorem dX7_leg_52 : decode cX7_leg 52 = .ok (.aload_n 0, 1) := by decide +kernel
theorem dX7_leg_53 : decode cX7_leg 53 = .ok (.getfield 30, 3) := by decide +kernel
theorem dX7_leg_56 : decode cX7_leg 56 = .ok (.getfield 121, 3) := by decide +kernel
theorem dX7_leg_59 : decode cX7_leg 59 = .ok (.iload_n 1, 1) := by decide +kernel
theorem dX7_leg_60 : decode cX7_leg 60 = .ok (.iload_n 2, 1) := by decide +kernel
theorem dX7_leg_61 : decode cX7_leg 61 = .ok (.invokevirtual 127, 3) := by decide +kernel
theorem dX7_leg_64 : decode cX7_leg 64 = .ok (.ireturn, 1) := by decide +kernel
theorem dX7_lender_0 : decode cX7_lender 0 = .ok (.aload_n 0, 1) := by decide +kernel
theorem dX7_lender_1 : decode cX7_lender 1 = .ok (.getfield 30, 3) := by decide +kernel
theorem dX7_lender_4 : decode cX7_lender 4 = .ok (.getfield 137, 3) := by decide +kernel
theorem dX7_lender_7 : decode cX7_lender 7 = .ok (.iload_n 1, 1) := by decide +kernel
theorem dX7_lender_8 : decode cX7_lender 8 = .ok (.invokevirtual 166, 3) := by decide +kernel
theorem dX7_lender_11 : decode cX7_lender 11 = .ok (.ifCond .ne 6, 3) := by decide +kernel
theorem dX7_lender_14 : decode cX7_lender 14 = .ok (.ldc 170, 2) := by decide +kernel
theorem dX7_lender_16 : decode cX7_lender 16 = .ok (.ireturn, 1) := by decide +kernel
theorem dX7_lender_17 : decode cX7_lender 17 = .ok (.iload_n 2, 1) := by decide +kernel
theorem dX7_lender_18 : decode cX7_lender 18 = .ok (.ifCond .lt 8, 3) := by decide +kernel
theorem dX7_lender_21 : decode cX7_lender 21 = .ok (.iload_n 2, 1) := by decide +kernel
theorem dX7_lender_22 : decode cX7_lender 22 = .ok (.iconst 2, 1) := by decide +kernel
theorem dX7_lender_23 : decode cX7_lender 23 = .ok (.if_icmp .le 6, 3) := by decide +kernel
theorem dX7_lender_26 : decode cX7_lender 26 = .ok (.ldc 80, 2) := by decide +kernel
theorem dX7_lender_28 : decode cX7_lender 28 = .ok (.ireturn, 1) := by decide +kernel
theorem dX7_lender_29 : decode cX7_lender 29 = .ok (.iload_n 2, 1) := by decide +kernel
theorem dX7_lender_30 : decode cX7_lender 30 = .ok (.iconst 2, 1) := by decide +kernel
theorem dX7_lender_31 : decode cX7_lender 31 = .ok (.if_icmp .ne 11, 3) := by decide +kernel
theorem dX7_lender_34 : decode cX7_lender 34 = .ok (.aload_n 0, 1) := by decide +kernel
theorem dX7_lender_35 : decode cX7_lender 35 = .ok (.iload_n 1, 1) := by decide +kernel
theorem dX7_lender_36 : decode cX7_lender 36 = .ok (.invokevirtual 174, 3) := by decide +kernel
theorem dX7_lender_39 : decode cX7_lender 39 = .ok (.goto 15, 3) := by decide +kernel
theorem dX7_lender_42 : decode cX7_lender 42 = .ok (.aload_n 0, 1) := by decide +kernel
theorem dX7_lender_43 : decode cX7_lender 43 = .ok (.getfield 30, 3) := by decide +kernel
theorem dX7_lender_46 : decode cX7_lender 46 = .ok (.getfield 137, 3) := by decide +kernel
theorem dX7_lender_49 : decode cX7_lender 49 = .ok (.iload_n 1, 1) := by decide +kernel
theorem dX7_lender_50 : decode cX7_lender 50 = .ok (.iload_n 2, 1) := by decide +kernel
theorem dX7_lender_51 : decode cX7_lender 51 = .ok (.invokevirtual 127, 3) := by decide +kernel
theorem dX7_lender_54 : decode cX7_lender 54 = .ok (.ireturn, 1) := by decide +kernel
theorem dX7_loan_0 : decode cX7_loan 0 = .ok (.aload_n 0, 1) := by decide +kernel
theorem dX7_loan_1 : decode cX7_loan 1 = .ok (.getfield 37, 3) := by decide +kernel
theorem dX7_loan_4 : decode cX7_loan 4 = .ok (.getfield 140, 3) := by decide +kernel
theorem dX7_loan_7 : decode cX7_loan 7 = .ok (.iload_n 1, 1) := by decide +kernel
theorem dX7_loan_8 : decode cX7_loan 8 = .ok (.invokevirtual 166, 3) := by decide +kernel
theorem dX7_loan_11 : decode cX7_loan 11 = .ok (.ifCond .ne 6, 3) := by decide +kernel
theorem dX7_loan_14 : decode cX7_loan 14 = .ok (.ldc 170, 2) := by decide +kernel
theorem dX7_loan_16 : decode cX7_loan 16 = .ok (.ireturn, 1) := by decide +kernel
theorem dX7_loan_17 : decode cX7_loan 17 = .ok (.iload_n 2, 1) := by decide +kernel
theorem dX7_loan_18 : decode cX7_loan 18 = .ok (.ifCond .lt 8, 3) := by decide +kernel
theorem dX7_loan_21 : decode cX7_loan 21 = .ok (.iload_n 2, 1) := by decide +kernel
theorem dX7_loan_22 : decode cX7_loan 22 = .ok (.iconst 5, 1) := by decide +kernel
theorem dX7_loan_23 : decode cX7_loan 23 = .ok (.if_icmp .le 6, 3) := by decide +kernel
theorem dX7_loan_26 : decode cX7_loan 26 = .ok (.ldc 80, 2) := by decide +kernel
theorem dX7_loan_28 : decode cX7_loan 28 = .ok (.ireturn, 1) := by decide +kernel
theorem dX7_loan_29 : decode cX7_loan 29 = .ok (.iload_n 2, 1) := by decide +kernel
theorem dX7_loan_30 : decode cX7_loan 30 = .ok (.iconst 5, 1) := by decide +kernel
theorem dX7_loan_31 : decode cX7_loan 31 = .ok (.if_icmp .ne 14, 3) := by decide +kernel
theorem dX7_loan_34 : decode cX7_loan 34 = .ok (.aload_n 0, 1) := by decide +kernel
theorem dX7_loan_35 : decode cX7_loan 35 = .ok (.getfield 37, 3) := by decide +kernel
theorem dX7_loan_38 : decode cX7_loan 38 = .ok (.iload_n 1, 1) := by decide +kernel
theorem dX7_loan_39 : decode cX7_loan 39 = .ok (.invokevirtual 178, 3) := by decide +kernel
theorem dX7_loan_42 : decode cX7_loan 42 = .ok (.goto 15, 3) := by decide +kernel
theorem dX7_loan_45 : decode cX7_loan 45 = .ok (.aload_n 0, 1) := by decide +kernel
theorem dX7_loan_46 : decode cX7_loan 46 = .ok (.getfield 37, 3) := by decide +kernel
theorem dX7_loan_49 : decode cX7_loan 49 = .ok (.getfield 140, 3) := by decide +kernel
theorem dX7_loan_52 : decode cX7_loan 52 = .ok (.iload_n 1, 1) := by decide +kernel
theorem dX7_loan_53 : decode cX7_loan 53 = .ok (.iload_n 2, 1) := by decide +kernel
theorem dX7_loan_54 : decode cX7_loan 54 = .ok (.invokevirtual 127, 3) := by decide +kernel
theorem dX7_loan_57 : decode cX7_loan 57 = .ok (.ireturn, 1) := by decide +kernel
theorem dX7_borrow_0 : decode cX7_borrow 0 = .ok (.aload_n 0, 1) := by decide +kernel
theorem dX7_borrow_1 : decode cX7_borrow 1 = .ok (.getfield 30, 3) := by decide +kernel
theorem dX7_borrow_4 : decode cX7_borrow 4 = .ok (.getfield 137, 3) := by decide +kernel
theorem dX7_borrow_7 : decode cX7_borrow 7 = .ok (.iload_n 1, 1) := by decide +kernel
theorem dX7_borrow_8 : decode cX7_borrow 8 = .ok (.invokevirtual 166, 3) := by decide +kernel
theorem dX7_borrow_11 : decode cX7_borrow 11 = .ok (.ifCond .ne 6, 3) := by decide +kernel
theorem dX7_borrow_14 : decode cX7_borrow 14 = .ok (.ldc 170, 2) := by decide +kernel
theorem dX7_borrow_16 : decode cX7_borrow 16 = .ok (.ireturn, 1) := by decide +kernel
theorem dX7_borrow_17 : decode cX7_borrow 17 = .ok (.iload_n 2, 1) := by decide +kernel
theorem dX7_borrow_18 : decode cX7_borrow 18 = .ok (.iconst 1, 1) := by decide +kernel
theorem dX7_borrow_19 : decode cX7_borrow 19 = .ok (.if_icmp .lt 10, 3) := by decide +kernel
theorem dX7_borrow_22 : decode cX7_borrow 22 = .ok (.iload_n 2, 1) := by decide +kernel
theorem dX7_borrow_23 : decode cX7_borrow 23 = .ok (.sipush 999, 3) := by decide +kernel
theorem dX7_borrow_26 : decode cX7_borrow 26 = .ok (.if_icmp .le 6, 3) := by decide +kernel
theorem dX7_borrow_29 : decode cX7_borrow 29 = .ok (.ldc 80, 2) := by decide +kernel
theorem dX7_borrow_31 : decode cX7_borrow 31 = .ok (.ireturn, 1) := by decide +kernel
theorem dX7_borrow_32 : decode cX7_borrow 32 = .ok (.aload_n 0, 1) := by decide +kernel
theorem dX7_borrow_33 : decode cX7_borrow 33 = .ok (.invokevirtual 181, 3) := by decide +kernel
theorem dX7_borrow_36 : decode cX7_borrow 36 = .ok (.ifCond .eq 12, 3) := by decide +kernel
theorem dX7_borrow_39 : decode cX7_borrow 39 = .ok (.aload_n 0, 1) := by decide +kernel
theorem dX7_borrow_40 : decode cX7_borrow 40 = .ok (.iload_n 1, 1) := by decide +kernel
theorem dX7_borrow_41 : decode cX7_borrow 41 = .ok (.invokevirtual 174, 3) := by decide +kernel
theorem dX7_borrow_44 : decode cX7_borrow 44 = .ok (.iload_n 2, 1) := by decide +kernel
theorem dX7_borrow_45 : decode cX7_borrow 45 = .ok (.if_icmp .ge 6, 3) := by decide +kernel
theorem dX7_borrow_48 : decode cX7_borrow 48 = .ok (.ldc 184, 2) := by decide +kernel
theorem dX7_borrow_50 : decode cX7_borrow 50 = .ok (.ireturn, 1) := by decide +kernel
theorem dX7_borrow_51 : decode cX7_borrow 51 = .ok (.aload_n 0, 1) := by decide +kernel
theorem dX7_borrow_52 : decode cX7_borrow 52 = .ok (.getfield 37, 3) := by decide +kernel
theorem dX7_borrow_55 : decode cX7_borrow 55 = .ok (.getfield 140, 3) := by decide +kernel
theorem dX7_borrow_58 : decode cX7_borrow 58 = .ok (.invokevirtual 81, 3) := by decide +kernel
theorem dX7_borrow_61 : decode cX7_borrow 61 = .ok (.ifCond .eq 6, 3) := by decide +kernel
theorem dX7_borrow_64 : decode cX7_borrow 64 = .ok (.ldc 85, 2) := by decide +kernel
theorem dX7_borrow_66 : decode cX7_borrow 66 = .ok (.ireturn, 1) := by decide +kernel
theorem dX7_borrow_67 : decode cX7_borrow 67 = .ok (.aload_n 0, 1) := by decide +kernel
theorem dX7_borrow_68 : decode cX7_borrow 68 = .ok (.invokevirtual 185, 3) := by decide +kernel
theorem dX7_borrow_71 : decode cX7_borrow 71 = .ok (.aload_n 0, 1) := by decide +kernel
theorem dX7_borrow_72 : decode cX7_borrow 72 = .ok (.getfield 37, 3) := by decide +kernel
theorem dX7_borrow_75 : decode cX7_borrow 75 = .ok (.getfield 140, 3) := by decide +kernel
theorem dX7_borrow_78 : decode cX7_borrow 78 = .ok (.invokevirtual 188, 3) := by decide +kernel
theorem dX7_borrow_81 : decode cX7_borrow 81 = .ok (.istore 4, 2) := by decide +kernel
theorem dX7_borrow_83 : decode cX7_borrow 83 = .ok (.aload_n 0, 1) := by decide +kernel
theorem dX7_borrow_84 : decode cX7_borrow 84 = .ok (.getfield 37, 3) := by decide +kernel
theorem dX7_borrow_87 : decode cX7_borrow 87 = .ok (.getfield 140, 3) := by decide +kernel
theorem dX7_borrow_90 : decode cX7_borrow 90 = .ok (.iload 4, 2) := by decide +kernel
theorem dX7_borrow_92 : decode cX7_borrow 92 = .ok (.iconst 0, 1) := by decide +kernel
theorem dX7_borrow_93 : decode cX7_borrow 93 = .ok (.iload_n 1, 1) := by decide +kernel
theorem dX7_borrow_94 : decode cX7_borrow 94 = .ok (.invokevirtual 191, 3) := by decide +kernel
theorem dX7_borrow_97 : decode cX7_borrow 97 = .ok (.aload_n 0, 1) := by decide +kernel
theorem dX7_borrow_98 : decode cX7_borrow 98 = .ok (.getfield 37, 3) := by decide +kernel
theorem dX7_borrow_101 : decode cX7_borrow 101 = .ok (.getfield 140, 3) := by decide +kernel
theorem dX7_borrow_104 : decode cX7_borrow 104 = .ok (.iload 4, 2) := by decide +kernel
theorem dX7_borrow_106 : decode cX7_borrow 106 = .ok (.iconst 1, 1) := by decide +kernel
theorem dX7_borrow_107 : decode cX7_borrow 107 = .ok (.iload_n 2, 1) := by decide +kernel
theorem dX7_borrow_108 : decode cX7_borrow 108 = .ok (.invokevirtual 191, 3) := by decide +kernel
theorem dX7_borrow_111 : decode cX7_borrow 111 = .ok (.aload_n 0, 1) := by decide +kernel
theorem dX7_borrow_112 : decode cX7_borrow 112 = .ok (.getfield 37, 3) := by decide +kernel
theorem dX7_borrow_115 : decode cX7_borrow 115 = .ok (.getfield 140, 3) := by decide +kernel
theorem dX7_borrow_118 : decode cX7_borrow 118 = .ok (.iload 4, 2) := by decide +kernel
theorem dX7_borrow_120 : decode cX7_borrow 120 = .ok (.iconst 2, 1) := by decide +kernel
theorem dX7_borrow_121 : decode cX7_borrow 121 = .ok (.iload_n 3, 1) := by decide +kernel
theorem dX7_borrow_122 : decode cX7_borrow 122 = .ok (.ifCond .eq 7, 3) := by decide +kernel
theorem dX7_borrow_125 : decode cX7_borrow 125 = .ok (.iconst 1, 1) := by decide +kernel
theorem dX7_borrow_126 : decode cX7_borrow 126 = .ok (.goto 4, 3) := by decide +kernel
theorem dX7_borrow_129 : decode cX7_borrow 129 = .ok (.iconst 0, 1) := by decide +kernel
theorem dX7_borrow_130 : decode cX7_borrow 130 = .ok (.invokevirtual 191, 3) := by decide +kernel
theorem dX7_borrow_133 : decode cX7_borrow 133 = .ok (.aload_n 0, 1) := by decide +kernel
theorem dX7_borrow_134 : decode cX7_borrow 134 = .ok (.getfield 37, 3) := by decide +kernel
theorem dX7_borrow_137 : decode cX7_borrow 137 = .ok (.getfield 140, 3) := by decide +kernel
theorem dX7_borrow_140 : decode cX7_borrow 140 = .ok (.iload 4, 2) := by decide +kernel
theorem dX7_borrow_142 : decode cX7_borrow 142 = .ok (.iconst 3, 1) := by decide +kernel
theorem dX7_borrow_143 : decode cX7_borrow 143 = .ok (.aload_n 0, 1) := by decide +kernel
theorem dX7_borrow_144 : decode cX7_borrow 144 = .ok (.getfield 30, 3) := by decide +kernel
theorem dX7_borrow_147 : decode cX7_borrow 147 = .ok (.iload_n 1, 1) := by decide +kernel
theorem dX7_borrow_148 : decode cX7_borrow 148 = .ok (.iload_n 2, 1) := by decide +kernel
theorem dX7_borrow_149 : decode cX7_borrow 149 = .ok (.invokevirtual 195, 3) := by decide +kernel
theorem dX7_borrow_152 : decode cX7_borrow 152 = .ok (.invokevirtual 191, 3) := by decide +kernel
theorem dX7_borrow_155 : decode cX7_borrow 155 = .ok (.aload_n 0, 1) := by decide +kernel
theorem dX7_borrow_156 : decode cX7_borrow 156 = .ok (.getfield 37, 3) := by decide +kernel
theorem dX7_borrow_159 : decode cX7_borrow 159 = .ok (.getfield 140, 3) := by decide +kernel
theorem dX7_borrow_162 : decode cX7_borrow 162 = .ok (.iload 4, 2) := by decide +kernel
theorem dX7_borrow_164 : decode cX7_borrow 164 = .ok (.iconst 4, 1) := by decide +kernel
theorem dX7_borrow_165 : decode cX7_borrow 165 = .ok (.aload_n 0, 1) := by decide +kernel
theorem dX7_borrow_166 : decode cX7_borrow 166 = .ok (.getfield 37, 3) := by decide +kernel
theorem dX7_borrow_169 : decode cX7_borrow 169 = .ok (.getfield 143, 3) := by decide +kernel
theorem dX7_borrow_172 : decode cX7_borrow 172 = .ok (.invokevirtual 191, 3) := by decide +kernel
theorem dX7_borrow_175 : decode cX7_borrow 175 = .ok (.aload_n 0, 1) := by decide +kernel
theorem dX7_borrow_176 : decode cX7_borrow 176 = .ok (.getfield 37, 3) := by decide +kernel
theorem dX7_borrow_179 : decode cX7_borrow 179 = .ok (.dup, 1) := by decide +kernel
theorem dX7_borrow_180 : decode cX7_borrow 180 = .ok (.getfield 134, 3) := by decide +kernel
theorem dX7_borrow_183 : decode cX7_borrow 183 = .ok (.iload_n 2, 1) := by decide +kernel
theorem dX7_borrow_184 : decode cX7_borrow 184 = .ok (.iadd, 1) := by decide +kernel
theorem dX7_borrow_185 : decode cX7_borrow 185 = .ok (.putfield 134, 3) := by decide +kernel
theorem dX7_borrow_188 : decode cX7_borrow 188 = .ok (.iload 4, 2) := by decide +kernel
theorem dX7_borrow_190 : decode cX7_borrow 190 = .ok (.ireturn, 1) := by decide +kernel
theorem dX7_repair_0 : decode cX7_repair 0 = .ok (.iload_n 1, 1) := by decide +kernel
theorem dX7_repair_1 : decode cX7_repair 1 = .ok (.iconst 1, 1) := by decide +kernel
theorem dX7_repair_2 : decode cX7_repair 2 = .ok (.if_icmp .lt 9, 3) := by decide +kernel
theorem dX7_repair_5 : decode cX7_repair 5 = .ok (.iload_n 1, 1) := by decide +kernel
theorem dX7_repair_6 : decode cX7_repair 6 = .ok (.bipush 9, 2) := by decide +kernel
theorem dX7_repair_8 : decode cX7_repair 8 = .ok (.if_icmp .le 6, 3) := by decide +kernel
theorem dX7_repair_11 : decode cX7_repair 11 = .ok (.ldc 80, 2) := by decide +kernel
theorem dX7_repair_13 : decode cX7_repair 13 = .ok (.ireturn, 1) := by decide +kernel
theorem dX7_repair_14 : decode cX7_repair 14 = .ok (.iload_n 1, 1) := by decide +kernel
theorem dX7_repair_15 : decode cX7_repair 15 = .ok (.aload_n 0, 1) := by decide +kernel
theorem dX7_repair_16 : decode cX7_repair 16 = .ok (.invokevirtual 198, 3) := by decide +kernel
theorem dX7_repair_19 : decode cX7_repair 19 = .ok (.imul, 1) := by decide +kernel
theorem dX7_repair_20 : decode cX7_repair 20 = .ok (.istore_n 2, 1) := by decide +kernel
theorem dX7_repair_21 : decode cX7_repair 21 = .ok (.aload_n 0, 1) := by decide +kernel
theorem dX7_repair_22 : decode cX7_repair 22 = .ok (.invokevirtual 181, 3) := by decide +kernel
theorem dX7_repair_25 : decode cX7_repair 25 = .ok (.ifCond .eq 28, 3) := by decide +kernel
theorem dX7_repair_28 : decode cX7_repair 28 = .ok (.aload_n 0, 1) := by decide +kernel
theorem dX7_repair_29 : decode cX7_repair 29 = .ok (.getfield 37, 3) := by decide +kernel
theorem dX7_repair_32 : decode cX7_repair 32 = .ok (.getfield 131, 3) := by decide +kernel
theorem dX7_repair_35 : decode cX7_repair 35 = .ok (.iload_n 1, 1) := by decide +kernel
theorem dX7_repair_36 : decode cX7_repair 36 = .ok (.iadd, 1) := by decide +kernel
theorem dX7_repair_37 : decode cX7_repair 37 = .ok (.bipush 9, 2) := by decide +kernel
theorem dX7_repair_39 : decode cX7_repair 39 = .ok (.if_icmp .gt 14, 3) := by decide +kernel
theorem dX7_repair_42 : decode cX7_repair 42 = .ok (.aload_n 0, 1) := by decide +kernel
theorem dX7_repair_43 : decode cX7_repair 43 = .ok (.getfield 37, 3) := by decide +kernel
theorem dX7_repair_46 : decode cX7_repair 46 = .ok (.getfield 134, 3) := by decide +kernel
theorem dX7_repair_49 : decode cX7_repair 49 = .ok (.iload_n 2, 1) := by decide +kernel
theorem dX7_repair_50 : decode cX7_repair 50 = .ok (.if_icmp .ge 6, 3) := by decide +kernel
theorem dX7_repair_53 : decode cX7_repair 53 = .ok (.ldc 184, 2) := by decide +kernel
theorem dX7_repair_55 : decode cX7_repair 55 = .ok (.ireturn, 1) := by decide +kernel
theorem dX7_repair_56 : decode cX7_repair 56 = .ok (.aload_n 0, 1) := by decide +kernel
theorem dX7_repair_57 : decode cX7_repair 57 = .ok (.invokevirtual 185, 3) := by decide +kernel
theorem dX7_repair_60 : decode cX7_repair 60 = .ok (.aload_n 0, 1) := by decide +kernel
theorem dX7_repair_61 : decode cX7_repair 61 = .ok (.getfield 37, 3) := by decide +kernel
theorem dX7_repair_64 : decode cX7_repair 64 = .ok (.dup, 1) := by decide +kernel
theorem dX7_repair_65 : decode cX7_repair 65 = .ok (.getfield 131, 3) := by decide +kernel
theorem dX7_repair_68 : decode cX7_repair 68 = .ok (.iload_n 1, 1) := by decide +kernel
theorem dX7_repair_69 : decode cX7_repair 69 = .ok (.iadd, 1) := by decide +kernel
theorem dX7_repair_70 : decode cX7_repair 70 = .ok (.putfield 131, 3) := by decide +kernel
theorem dX7_repair_73 : decode cX7_repair 73 = .ok (.aload_n 0, 1) := by decide +kernel
theorem dX7_repair_74 : decode cX7_repair 74 = .ok (.getfield 37, 3) := by decide +kernel
theorem dX7_repair_77 : decode cX7_repair 77 = .ok (.dup, 1) := by decide +kernel
theorem dX7_repair_78 : decode cX7_repair 78 = .ok (.getfield 134, 3) := by decide +kernel
theorem dX7_repair_81 : decode cX7_repair 81 = .ok (.iload_n 2, 1) := by decide +kernel
theorem dX7_repair_82 : decode cX7_repair 82 = .ok (.isub, 1) := by decide +kernel
theorem dX7_repair_83 : decode cX7_repair 83 = .ok (.putfield 134, 3) := by decide +kernel
theorem dX7_repair_86 : decode cX7_repair 86 = .ok (.aload_n 0, 1) := by decide +kernel
theorem dX7_repair_87 : decode cX7_repair 87 = .ok (.getfield 37, 3) := by decide +kernel
theorem dX7_repair_90 : decode cX7_repair 90 = .ok (.getfield 131, 3) := by decide +kernel
theorem dX7_repair_93 : decode cX7_repair 93 = .ok (.ireturn, 1) := by decide +kernel
theorem dX7_sail_0 : decode cX7_sail 0 = .ok (.aload_n 0, 1) := by decide +kernel
theorem dX7_sail_1 : decode cX7_sail 1 = .ok (.invokevirtual 181, 3) := by decide +kernel
theorem dX7_sail_4 : decode cX7_sail 4 = .ok (.ifCond .ne 6, 3) := by decide +kernel
theorem dX7_sail_7 : decode cX7_sail 7 = .ok (.ldc 184, 2) := by decide +kernel
theorem dX7_sail_9 : decode cX7_sail 9 = .ok (.ireturn, 1) := by decide +kernel
theorem dX7_sail_10 : decode cX7_sail 10 = .ok (.aload_n 0, 1) := by decide +kernel
theorem dX7_sail_11 : decode cX7_sail 11 = .ok (.invokevirtual 185, 3) := by decide +kernel
theorem dX7_sail_14 : decode cX7_sail 14 = .ok (.aload_n 0, 1) := by decide +kernel
theorem dX7_sail_15 : decode cX7_sail 15 = .ok (.getfield 37, 3) := by decide +kernel
theorem dX7_sail_18 : decode cX7_sail 18 = .ok (.iload_n 1, 1) := by decide +kernel
theorem dX7_sail_19 : decode cX7_sail 19 = .ok (.invokevirtual 201, 3) := by decide +kernel
theorem dX7_sail_22 : decode cX7_sail 22 = .ok (.aload_n 0, 1) := by decide +kernel
theorem dX7_sail_23 : decode cX7_sail 23 = .ok (.getfield 37, 3) := by decide +kernel
theorem dX7_sail_26 : decode cX7_sail 26 = .ok (.getfield 143, 3) := by decide +kernel
theorem dX7_sail_29 : decode cX7_sail 29 = .ok (.ireturn, 1) := by decide +kernel
theorem dX7_drift_0 : decode cX7_drift 0 = .ok (.iload_n 1, 1) := by decide +kernel
theorem dX7_drift_1 : decode cX7_drift 1 = .ok (.iconst 1, 1) := by decide +kernel
theorem dX7_drift_2 : decode cX7_drift 2 = .ok (.if_icmp .lt 9, 3) := by decide +kernel
theorem dX7_drift_5 : decode cX7_drift 5 = .ok (.iload_n 1, 1) := by decide +kernel
theorem dX7_drift_6 : decode cX7_drift 6 = .ok (.bipush 7, 2) := by decide +kernel
theorem dX7_drift_8 : decode cX7_drift 8 = .ok (.if_icmp .le 6, 3) := by decide +kernel
theorem dX7_drift_11 : decode cX7_drift 11 = .ok (.ldc 80, 2) := by decide +kernel
theorem dX7_drift_13 : decode cX7_drift 13 = .ok (.ireturn, 1) := by decide +kernel
theorem dX7_drift_14 : decode cX7_drift 14 = .ok (.aload_n 0, 1) := by decide +kernel
theorem dX7_drift_15 : decode cX7_drift 15 = .ok (.invokevirtual 181, 3) := by decide +kernel
theorem dX7_drift_18 : decode cX7_drift 18 = .ok (.ifCond .ne 6, 3) := by decide +kernel
theorem dX7_drift_21 : decode cX7_drift 21 = .ok (.ldc 184, 2) := by decide +kernel
theorem dX7_drift_23 : decode cX7_drift 23 = .ok (.ireturn, 1) := by decide +kernel
theorem dX7_drift_24 : decode cX7_drift 24 = .ok (.aload_n 0, 1) := by decide +kernel
theorem dX7_drift_25 : decode cX7_drift 25 = .ok (.invokevirtual 185, 3) := by decide +kernel
theorem dX7_drift_28 : decode cX7_drift 28 = .ok (.iconst 0, 1) := by decide +kernel
theorem dX7_drift_29 : decode cX7_drift 29 = .ok (.istore_n 2, 1) := by decide +kernel
theorem dX7_drift_30 : decode cX7_drift 30 = .ok (.iload_n 2, 1) := by decide +kernel
theorem dX7_drift_31 : decode cX7_drift 31 = .ok (.iload_n 1, 1) := by decide +kernel
theorem dX7_drift_32 : decode cX7_drift 32 = .ok (.if_icmp .ge 58, 3) := by decide +kernel
theorem dX7_drift_35 : decode cX7_drift 35 = .ok (.aload_n 0, 1) := by decide +kernel
theorem dX7_drift_36 : decode cX7_drift 36 = .ok (.invokevirtual 181, 3) := by decide +kernel
theorem dX7_drift_39 : decode cX7_drift 39 = .ok (.ifCond .eq 51, 3) := by decide +kernel
theorem dX7_drift_42 : decode cX7_drift 42 = .ok (.aload_n 0, 1) := by decide +kernel
theorem dX7_drift_43 : decode cX7_drift 43 = .ok (.getfield 30, 3) := by decide +kernel
theorem dX7_drift_46 : decode cX7_drift 46 = .ok (.aload_n 0, 1) := by decide +kernel
theorem dX7_drift_47 : decode cX7_drift 47 = .ok (.getfield 37, 3) := by decide +kernel
theorem dX7_drift_50 : decode cX7_drift 50 = .ok (.getfield 143, 3) := by decide +kernel
theorem dX7_drift_53 : decode cX7_drift 53 = .ok (.aload_n 0, 1) := by decide +kernel
theorem dX7_drift_54 : decode cX7_drift 54 = .ok (.getfield 37, 3) := by decide +kernel
theorem dX7_drift_57 : decode cX7_drift 57 = .ok (.getfield 131, 3) := by decide +kernel
theorem dX7_drift_60 : decode cX7_drift 60 = .ok (.invokevirtual 171, 3) := by decide +kernel
theorem dX7_drift_63 : decode cX7_drift 63 = .ok (.istore_n 3, 1) := by decide +kernel
theorem dX7_drift_64 : decode cX7_drift 64 = .ok (.aload_n 0, 1) := by decide +kernel
theorem dX7_drift_65 : decode cX7_drift 65 = .ok (.getfield 37, 3) := by decide +kernel
theorem dX7_drift_68 : decode cX7_drift 68 = .ok (.aload_n 0, 1) := by decide +kernel
theorem dX7_drift_69 : decode cX7_drift 69 = .ok (.invokevirtual 205, 3) := by decide +kernel
theorem dX7_drift_72 : decode cX7_drift 72 = .ok (.iload_n 3, 1) := by decide +kernel
theorem dX7_drift_73 : decode cX7_drift 73 = .ok (.if_icmp .lt 7, 3) := by decide +kernel
theorem dX7_drift_76 : decode cX7_drift 76 = .ok (.iconst 1, 1) := by decide +kernel
theorem dX7_drift_77 : decode cX7_drift 77 = .ok (.goto 4, 3) := by decide +kernel
theorem dX7_drift_80 : decode cX7_drift 80 = .ok (.iconst 0, 1) := by decide +kernel
theorem dX7_drift_81 : decode cX7_drift 81 = .ok (.invokevirtual 201, 3) := by decide +kernel
theorem dX7_drift_84 : decode cX7_drift 84 = .ok (.iinc 2 1, 3) := by decide +kernel
theorem dX7_drift_87 : decode cX7_drift 87 = .ok (.goto (-57), 3) := by decide +kernel
theorem dX7_drift_90 : decode cX7_drift 90 = .ok (.aload_n 0, 1) := by decide +kernel
theorem dX7_drift_91 : decode cX7_drift 91 = .ok (.invokevirtual 146, 3) := by decide +kernel
theorem dX7_drift_94 : decode cX7_drift 94 = .ok (.ireturn, 1) := by decide +kernel
theorem dX7_undo_0 : decode cX7_undo 0 = .ok (.aload_n 0, 1) := by decide +kernel
theorem dX7_undo_1 : decode cX7_undo 1 = .ok (.getfield 44, 3) := by decide +kernel
theorem dX7_undo_4 : decode cX7_undo 4 = .ok (.invokevirtual 163, 3) := by decide +kernel
theorem dX7_undo_7 : decode cX7_undo 7 = .ok (.ifCond .ne 6, 3) := by decide +kernel
theorem dX7_undo_10 : decode cX7_undo 10 = .ok (.ldc 184, 2) := by decide +kernel
theorem dX7_undo_12 : decode cX7_undo 12 = .ok (.ireturn, 1) := by decide +kernel
theorem dX7_undo_13 : decode cX7_undo 13 = .ok (.aload_n 0, 1) := by decide +kernel
theorem dX7_undo_14 : decode cX7_undo 14 = .ok (.getfield 44, 3) := by decide +kernel
theorem dX7_undo_17 : decode cX7_undo 17 = .ok (.aload_n 0, 1) := by decide +kernel
theorem dX7_undo_18 : decode cX7_undo 18 = .ok (.getfield 37, 3) := by decide +kernel
theorem dX7_undo_21 : decode cX7_undo 21 = .ok (.invokevirtual 208, 3) := by decide +kernel
theorem dX7_undo_24 : decode cX7_undo 24 = .ok (.aload_n 0, 1) := by decide +kernel
theorem dX7_undo_25 : decode cX7_undo 25 = .ok (.getfield 63, 3) := by decide +kernel
theorem dX7_undo_28 : decode cX7_undo 28 = .ok (.invokevirtual 118, 3) := by decide +kernel
theorem dX7_undo_31 : decode cX7_undo 31 = .ok (.aload_n 0, 1) := by decide +kernel
theorem dX7_undo_32 : decode cX7_undo 32 = .ok (.getfield 44, 3) := by decide +kernel
theorem dX7_undo_35 : decode cX7_undo 35 = .ok (.invokevirtual 163, 3) := by decide +kernel
theorem dX7_undo_38 : decode cX7_undo 38 = .ok (.ireturn, 1) := by decide +kernel
theorem dX7_comesHome_0 : decode cX7_comesHome 0 = .ok (.aload_n 0, 1) := by decide +kernel
theorem dX7_comesHome_1 : decode cX7_comesHome 1 = .ok (.invokevirtual 152, 3) := by decide +kernel
theorem dX7_comesHome_4 : decode cX7_comesHome 4 = .ok (.ifCond .eq 8, 3) := by decide +kernel
theorem dX7_comesHome_7 : decode cX7_comesHome 7 = .ok (.ldc 184, 2) := by decide +kernel
theorem dX7_comesHome_9 : decode cX7_comesHome 9 = .ok (.goto 34, 3) := by decide +kernel
theorem dX7_comesHome_12 : decode cX7_comesHome 12 = .ok (.aload_n 0, 1) := by decide +kernel
theorem dX7_comesHome_13 : decode cX7_comesHome 13 = .ok (.getfield 30, 3) := by decide +kernel
theorem dX7_comesHome_16 : decode cX7_comesHome 16 = .ok (.aload_n 0, 1) := by decide +kernel
theorem dX7_comesHome_17 : decode cX7_comesHome 17 = .ok (.getfield 37, 3) := by decide +kernel
theorem dX7_comesHome_20 : decode cX7_comesHome 20 = .ok (.getfield 143, 3) := by decide +kernel
theorem dX7_comesHome_23 : decode cX7_comesHome 23 = .ok (.aload_n 0, 1) := by decide +kernel
theorem dX7_comesHome_24 : decode cX7_comesHome 24 = .ok (.getfield 30, 3) := by decide +kernel
theorem dX7_comesHome_27 : decode cX7_comesHome 27 = .ok (.getfield 121, 3) := by decide +kernel
theorem dX7_comesHome_30 : decode cX7_comesHome 30 = .ok (.invokevirtual 90, 3) := by decide +kernel
theorem dX7_comesHome_33 : decode cX7_comesHome 33 = .ok (.aload_n 0, 1) := by decide +kernel
theorem dX7_comesHome_34 : decode cX7_comesHome 34 = .ok (.getfield 37, 3) := by decide +kernel
theorem dX7_comesHome_37 : decode cX7_comesHome 37 = .ok (.getfield 131, 3) := by decide +kernel
theorem dX7_comesHome_40 : decode cX7_comesHome 40 = .ok (.invokevirtual 212, 3) := by decide +kernel
theorem dX7_comesHome_43 : decode cX7_comesHome 43 = .ok (.ireturn, 1) := by decide +kernel
theorem dX7_rate_0 : decode cX7_rate 0 = .ok (.aload_n 0, 1) := by decide +kernel
theorem dX7_rate_1 : decode cX7_rate 1 = .ok (.invokevirtual 152, 3) := by decide +kernel
theorem dX7_rate_4 : decode cX7_rate 4 = .ok (.ifCond .eq 8, 3) := by decide +kernel
theorem dX7_rate_7 : decode cX7_rate 7 = .ok (.ldc 184, 2) := by decide +kernel
theorem dX7_rate_9 : decode cX7_rate 9 = .ok (.goto 10, 3) := by decide +kernel
theorem dX7_rate_12 : decode cX7_rate 12 = .ok (.aload_n 0, 1) := by decide +kernel
theorem dX7_rate_13 : decode cX7_rate 13 = .ok (.invokevirtual 216, 3) := by decide +kernel
theorem dX7_rate_16 : decode cX7_rate 16 = .ok (.invokestatic 219, 3) := by decide +kernel
theorem dX7_rate_19 : decode cX7_rate 19 = .ok (.ireturn, 1) := by decide +kernel
theorem dX7_willing_0 : decode cX7_willing 0 = .ok (.aload_n 0, 1) := by decide +kernel
theorem dX7_willing_1 : decode cX7_willing 1 = .ok (.invokevirtual 152, 3) := by decide +kernel
theorem dX7_willing_4 : decode cX7_willing 4 = .ok (.ifCond .eq 6, 3) := by decide +kernel
theorem dX7_willing_7 : decode cX7_willing 7 = .ok (.ldc 184, 2) := by decide +kernel
theorem dX7_willing_9 : decode cX7_willing 9 = .ok (.ireturn, 1) := by decide +kernel
theorem dX7_willing_10 : decode cX7_willing 10 = .ok (.aload_n 0, 1) := by decide +kernel
theorem dX7_willing_11 : decode cX7_willing 11 = .ok (.invokevirtual 216, 3) := by decide +kernel
theorem dX7_willing_14 : decode cX7_willing 14 = .ok (.invokestatic 219, 3) := by decide +kernel
theorem dX7_willing_17 : decode cX7_willing 17 = .ok (.istore_n 1, 1) := by decide +kernel
theorem dX7_willing_18 : decode cX7_willing 18 = .ok (.iconst 0, 1) := by decide +kernel
theorem dX7_willing_19 : decode cX7_willing 19 = .ok (.istore_n 2, 1) := by decide +kernel
theorem dX7_willing_20 : decode cX7_willing 20 = .ok (.iconst 0, 1) := by decide +kernel
theorem dX7_willing_21 : decode cX7_willing 21 = .ok (.istore_n 3, 1) := by decide +kernel
theorem dX7_willing_22 : decode cX7_willing 22 = .ok (.iload_n 3, 1) := by decide +kernel
theorem dX7_willing_23 : decode cX7_willing 23 = .ok (.aload_n 0, 1) := by decide +kernel
theorem dX7_willing_24 : decode cX7_willing 24 = .ok (.getfield 30, 3) := by decide +kernel
theorem dX7_willing_27 : decode cX7_willing 27 = .ok (.getfield 137, 3) := by decide +kernel
theorem dX7_willing_30 : decode cX7_willing 30 = .ok (.invokevirtual 90, 3) := by decide +kernel
theorem dX7_willing_33 : decode cX7_willing 33 = .ok (.if_icmp .ge 36, 3) := by decide +kernel
theorem dX7_willing_36 : decode cX7_willing 36 = .ok (.iload_n 1, 1) := by decide +kernel
theorem dX7_willing_37 : decode cX7_willing 37 = .ok (.iconst (-1), 1) := by decide +kernel
theorem dX7_willing_38 : decode cX7_willing 38 = .ok (.if_icmp .eq 25, 3) := by decide +kernel
theorem dX7_willing_41 : decode cX7_willing 41 = .ok (.aload_n 0, 1) := by decide +kernel
theorem dX7_willing_42 : decode cX7_willing 42 = .ok (.getfield 30, 3) := by decide +kernel
theorem dX7_willing_45 : decode cX7_willing 45 = .ok (.getfield 137, 3) := by decide +kernel
theorem dX7_willing_48 : decode cX7_willing 48 = .ok (.iload_n 3, 1) := by decide +kernel
theorem dX7_willing_49 : decode cX7_willing 49 = .ok (.iconst 1, 1) := by decide +kernel
theorem dX7_willing_50 : decode cX7_willing 50 = .ok (.invokevirtual 127, 3) := by decide +kernel
theorem dX7_willing_53 : decode cX7_willing 53 = .ok (.iload_n 1, 1) := by decide +kernel
theorem dX7_willing_54 : decode cX7_willing 54 = .ok (.if_icmp .lt 9, 3) := by decide +kernel
theorem dX7_willing_57 : decode cX7_willing 57 = .ok (.iload_n 2, 1) := by decide +kernel
theorem dX7_willing_58 : decode cX7_willing 58 = .ok (.iconst 1, 1) := by decide +kernel
theorem dX7_willing_59 : decode cX7_willing 59 = .ok (.iload_n 3, 1) := by decide +kernel
theorem dX7_willing_60 : decode cX7_willing 60 = .ok (.ishl, 1) := by decide +kernel
theorem dX7_willing_61 : decode cX7_willing 61 = .ok (.ior, 1) := by decide +kernel
theorem dX7_willing_62 : decode cX7_willing 62 = .ok (.istore_n 2, 1) := by decide +kernel
theorem dX7_willing_63 : decode cX7_willing 63 = .ok (.iinc 3 1, 3) := by decide +kernel
theorem dX7_willing_66 : decode cX7_willing 66 = .ok (.goto (-44), 3) := by decide +kernel
theorem dX7_willing_69 : decode cX7_willing 69 = .ok (.iload_n 2, 1) := by decide +kernel
theorem dX7_willing_70 : decode cX7_willing 70 = .ok (.ireturn, 1) := by decide +kernel
theorem dX7_paid_0 : decode cX7_paid 0 = .ok (.aload_n 0, 1) := by decide +kernel
theorem dX7_paid_1 : decode cX7_paid 1 = .ok (.getfield 37, 3) := by decide +kernel
theorem dX7_paid_4 : decode cX7_paid 4 = .ok (.getfield 140, 3) := by decide +kernel
theorem dX7_paid_7 : decode cX7_paid 7 = .ok (.iload_n 1, 1) := by decide +kernel
theorem dX7_paid_8 : decode cX7_paid 8 = .ok (.invokevirtual 166, 3) := by decide +kernel
theorem dX7_paid_11 : decode cX7_paid 11 = .ok (.ifCond .ne 6, 3) := by decide +kernel
theorem dX7_paid_14 : decode cX7_paid 14 = .ok (.ldc 170, 2) := by decide +kernel
theorem dX7_paid_16 : decode cX7_paid 16 = .ok (.ireturn, 1) := by decide +kernel
theorem dX7_paid_17 : decode cX7_paid 17 = .ok (.aload_n 0, 1) := by decide +kernel
theorem dX7_paid_18 : decode cX7_paid 18 = .ok (.invokevirtual 152, 3) := by decide +kernel
theorem dX7_paid_21 : decode cX7_paid 21 = .ok (.ifCond .eq 8, 3) := by decide +kernel
theorem dX7_paid_24 : decode cX7_paid 24 = .ok (.ldc 184, 2) := by decide +kernel
theorem dX7_paid_26 : decode cX7_paid 26 = .ok (.goto 8, 3) := by decide +kernel
theorem dX7_paid_29 : decode cX7_paid 29 = .ok (.aload_n 0, 1) := by decide +kernel
theorem dX7_paid_30 : decode cX7_paid 30 = .ok (.iload_n 1, 1) := by decide +kernel
theorem dX7_paid_31 : decode cX7_paid 31 = .ok (.invokevirtual 222, 3) := by decide +kernel
theorem dX7_paid_34 : decode cX7_paid 34 = .ok (.ireturn, 1) := by decide +kernel
theorem dX7_hurt_0 : decode cX7_hurt 0 = .ok (.aload_n 0, 1) := by decide +kernel
theorem dX7_hurt_1 : decode cX7_hurt 1 = .ok (.getfield 30, 3) := by decide +kernel
theorem dX7_hurt_4 : decode cX7_hurt 4 = .ok (.getfield 137, 3) := by decide +kernel
theorem dX7_hurt_7 : decode cX7_hurt 7 = .ok (.iload_n 1, 1) := by decide +kernel
theorem dX7_hurt_8 : decode cX7_hurt 8 = .ok (.invokevirtual 166, 3) := by decide +kernel
theorem dX7_hurt_11 : decode cX7_hurt 11 = .ok (.ifCond .ne 6, 3) := by decide +kernel
theorem dX7_hurt_14 : decode cX7_hurt 14 = .ok (.ldc 170, 2) := by decide +kernel
theorem dX7_hurt_16 : decode cX7_hurt 16 = .ok (.ireturn, 1) := by decide +kernel
theorem dX7_hurt_17 : decode cX7_hurt 17 = .ok (.iload_n 2, 1) := by decide +kernel
theorem dX7_hurt_18 : decode cX7_hurt 18 = .ok (.iconst 1, 1) := by decide +kernel
theorem dX7_hurt_19 : decode cX7_hurt 19 = .ok (.if_icmp .lt 10, 3) := by decide +kernel
theorem dX7_hurt_22 : decode cX7_hurt 22 = .ok (.iload_n 2, 1) := by decide +kernel
theorem dX7_hurt_23 : decode cX7_hurt 23 = .ok (.sipush 999, 3) := by decide +kernel
theorem dX7_hurt_26 : decode cX7_hurt 26 = .ok (.if_icmp .le 6, 3) := by decide +kernel
theorem dX7_hurt_29 : decode cX7_hurt 29 = .ok (.ldc 80, 2) := by decide +kernel
theorem dX7_hurt_31 : decode cX7_hurt 31 = .ok (.ireturn, 1) := by decide +kernel
theorem dX7_hurt_32 : decode cX7_hurt 32 = .ok (.aload_n 0, 1) := by decide +kernel
theorem dX7_hurt_33 : decode cX7_hurt 33 = .ok (.invokevirtual 152, 3) := by decide +kernel
theorem dX7_hurt_36 : decode cX7_hurt 36 = .ok (.ifCond .eq 6, 3) := by decide +kernel
theorem dX7_hurt_39 : decode cX7_hurt 39 = .ok (.ldc 184, 2) := by decide +kernel
theorem dX7_hurt_41 : decode cX7_hurt 41 = .ok (.ireturn, 1) := by decide +kernel
theorem dX7_hurt_42 : decode cX7_hurt 42 = .ok (.aload_n 0, 1) := by decide +kernel
theorem dX7_hurt_43 : decode cX7_hurt 43 = .ok (.getfield 30, 3) := by decide +kernel
theorem dX7_hurt_46 : decode cX7_hurt 46 = .ok (.iload_n 1, 1) := by decide +kernel
theorem dX7_hurt_47 : decode cX7_hurt 47 = .ok (.iload_n 2, 1) := by decide +kernel
theorem dX7_hurt_48 : decode cX7_hurt 48 = .ok (.invokevirtual 195, 3) := by decide +kernel
theorem dX7_hurt_51 : decode cX7_hurt 51 = .ok (.istore 4, 2) := by decide +kernel
theorem dX7_hurt_53 : decode cX7_hurt 53 = .ok (.aload_n 0, 1) := by decide +kernel
theorem dX7_hurt_54 : decode cX7_hurt 54 = .ok (.getfield 30, 3) := by decide +kernel
theorem dX7_hurt_57 : decode cX7_hurt 57 = .ok (.getfield 124, 3) := by decide +kernel
theorem dX7_hurt_60 : decode cX7_hurt 60 = .ok (.iconst 0, 1) := by decide +kernel
theorem dX7_hurt_61 : decode cX7_hurt 61 = .ok (.iconst 1, 1) := by decide +kernel
theorem dX7_hurt_62 : decode cX7_hurt 62 = .ok (.invokevirtual 127, 3) := by decide +kernel
theorem dX7_hurt_65 : decode cX7_hurt 65 = .ok (.iload_n 3, 1) := by decide +kernel
theorem dX7_hurt_66 : decode cX7_hurt 66 = .ok (.ifCond .eq 8, 3) := by decide +kernel
theorem dX7_hurt_69 : decode cX7_hurt 69 = .ok (.iload 4, 2) := by decide +kernel
theorem dX7_hurt_71 : decode cX7_hurt 71 = .ok (.goto 4, 3) := by decide +kernel
theorem dX7_hurt_74 : decode cX7_hurt 74 = .ok (.iconst 0, 1) := by decide +kernel
theorem dX7_hurt_75 : decode cX7_hurt 75 = .ok (.isub, 1) := by decide +kernel
theorem dX7_hurt_76 : decode cX7_hurt 76 = .ok (.istore 5, 2) := by decide +kernel
theorem dX7_hurt_78 : decode cX7_hurt 78 = .ok (.aload_n 0, 1) := by decide +kernel
theorem dX7_hurt_79 : decode cX7_hurt 79 = .ok (.iload 5, 2) := by decide +kernel
theorem dX7_hurt_81 : decode cX7_hurt 81 = .ok (.invokevirtual 225, 3) := by decide +kernel
theorem dX7_hurt_84 : decode cX7_hurt 84 = .ok (.iload_n 2, 1) := by decide +kernel
theorem dX7_hurt_85 : decode cX7_hurt 85 = .ok (.iadd, 1) := by decide +kernel
theorem dX7_hurt_86 : decode cX7_hurt 86 = .ok (.iload_n 3, 1) := by decide +kernel
theorem dX7_hurt_87 : decode cX7_hurt 87 = .ok (.ifCond .eq 7, 3) := by decide +kernel
theorem dX7_hurt_90 : decode cX7_hurt 90 = .ok (.iconst 0, 1) := by decide +kernel
theorem dX7_hurt_91 : decode cX7_hurt 91 = .ok (.goto 5, 3) := by decide +kernel
theorem dX7_hurt_94 : decode cX7_hurt 94 = .ok (.iload 4, 2) := by decide +kernel
theorem dX7_hurt_96 : decode cX7_hurt 96 = .ok (.isub, 1) := by decide +kernel
theorem dX7_hurt_97 : decode cX7_hurt 97 = .ok (.istore 6, 2) := by decide +kernel
theorem dX7_hurt_99 : decode cX7_hurt 99 = .ok (.iconst 0, 1) := by decide +kernel
theorem dX7_hurt_100 : decode cX7_hurt 100 = .ok (.istore 7, 2) := by decide +kernel
theorem dX7_hurt_102 : decode cX7_hurt 102 = .ok (.iconst 0, 1) := by decide +kernel
theorem dX7_hurt_103 : decode cX7_hurt 103 = .ok (.istore 8, 2) := by decide +kernel
theorem dX7_hurt_105 : decode cX7_hurt 105 = .ok (.iload 8, 2) := by decide +kernel
theorem dX7_hurt_107 : decode cX7_hurt 107 = .ok (.aload_n 0, 1) := by decide +kernel
theorem dX7_hurt_108 : decode cX7_hurt 108 = .ok (.getfield 37, 3) := by decide +kernel
theorem dX7_hurt_111 : decode cX7_hurt 111 = .ok (.getfield 140, 3) := by decide +kernel
theorem dX7_hurt_114 : decode cX7_hurt 114 = .ok (.invokevirtual 90, 3) := by decide +kernel
theorem dX7_hurt_117 : decode cX7_hurt 117 = .ok (.if_icmp .ge 40, 3) := by decide +kernel
theorem dX7_hurt_120 : decode cX7_hurt 120 = .ok (.aload_n 0, 1) := by decide +kernel
theorem dX7_hurt_121 : decode cX7_hurt 121 = .ok (.getfield 37, 3) := by decide +kernel
theorem dX7_hurt_124 : decode cX7_hurt 124 = .ok (.iload 8, 2) := by decide +kernel
theorem dX7_hurt_126 : decode cX7_hurt 126 = .ok (.iload 6, 2) := by decide +kernel
theorem dX7_hurt_128 : decode cX7_hurt 128 = .ok (.iload 5, 2) := by decide +kernel
theorem dX7_hurt_130 : decode cX7_hurt 130 = .ok (.invokevirtual 228, 3) := by decide +kernel
theorem dX7_hurt_133 : decode cX7_hurt 133 = .ok (.aload_n 0, 1) := by decide +kernel
theorem dX7_hurt_134 : decode cX7_hurt 134 = .ok (.iload 8, 2) := by decide +kernel
theorem dX7_hurt_136 : decode cX7_hurt 136 = .ok (.invokevirtual 222, 3) := by decide +kernel
theorem dX7_hurt_139 : decode cX7_hurt 139 = .ok (.if_icmp .ge 12, 3) := by decide +kernel
theorem dX7_hurt_142 : decode cX7_hurt 142 = .ok (.iload 7, 2) := by decide +kernel
theorem dX7_hurt_144 : decode cX7_hurt 144 = .ok (.iconst 1, 1) := by decide +kernel
theorem dX7_hurt_145 : decode cX7_hurt 145 = .ok (.iload 8, 2) := by decide +kernel
theorem dX7_hurt_147 : decode cX7_hurt 147 = .ok (.ishl, 1) := by decide +kernel
theorem dX7_hurt_148 : decode cX7_hurt 148 = .ok (.ior, 1) := by decide +kernel
theorem dX7_hurt_149 : decode cX7_hurt 149 = .ok (.istore 7, 2) := by decide +kernel
theorem dX7_hurt_151 : decode cX7_hurt 151 = .ok (.iinc 8 1, 3) := by decide +kernel
theorem dX7_hurt_154 : decode cX7_hurt 154 = .ok (.goto (-49), 3) := by decide +kernel
theorem dX7_hurt_157 : decode cX7_hurt 157 = .ok (.iload 7, 2) := by decide +kernel
theorem dX7_hurt_159 : decode cX7_hurt 159 = .ok (.ireturn, 1) := by decide +kernel
theorem dX7_share_0 : decode cX7_share 0 = .ok (.aload_n 0, 1) := by decide +kernel
theorem dX7_share_1 : decode cX7_share 1 = .ok (.getfield 37, 3) := by decide +kernel
theorem dX7_share_4 : decode cX7_share 4 = .ok (.getfield 140, 3) := by decide +kernel
theorem dX7_share_7 : decode cX7_share 7 = .ok (.iload_n 1, 1) := by decide +kernel
theorem dX7_share_8 : decode cX7_share 8 = .ok (.invokevirtual 166, 3) := by decide +kernel
theorem dX7_share_11 : decode cX7_share 11 = .ok (.ifCond .ne 6, 3) := by decide +kernel
theorem dX7_share_14 : decode cX7_share 14 = .ok (.ldc 170, 2) := by decide +kernel
theorem dX7_share_16 : decode cX7_share 16 = .ok (.ireturn, 1) := by decide +kernel
theorem dX7_share_17 : decode cX7_share 17 = .ok (.iload_n 2, 1) := by decide +kernel
theorem dX7_share_18 : decode cX7_share 18 = .ok (.ifCond .lt 10, 3) := by decide +kernel
theorem dX7_share_21 : decode cX7_share 21 = .ok (.iload_n 2, 1) := by decide +kernel
theorem dX7_share_22 : decode cX7_share 22 = .ok (.sipush 999, 3) := by decide +kernel
theorem dX7_share_25 : decode cX7_share 25 = .ok (.if_icmp .le 6, 3) := by decide +kernel
theorem dX7_share_28 : decode cX7_share 28 = .ok (.ldc 80, 2) := by decide +kernel
theorem dX7_share_30 : decode cX7_share 30 = .ok (.ireturn, 1) := by decide +kernel
theorem dX7_share_31 : decode cX7_share 31 = .ok (.aload_n 0, 1) := by decide +kernel
theorem dX7_share_32 : decode cX7_share 32 = .ok (.getfield 37, 3) := by decide +kernel
theorem dX7_share_35 : decode cX7_share 35 = .ok (.iload_n 1, 1) := by decide +kernel
theorem dX7_share_36 : decode cX7_share 36 = .ok (.iload_n 2, 1) := by decide +kernel
theorem dX7_share_37 : decode cX7_share 37 = .ok (.iconst 0, 1) := by decide +kernel
theorem dX7_share_38 : decode cX7_share 38 = .ok (.invokevirtual 228, 3) := by decide +kernel
theorem dX7_share_41 : decode cX7_share 41 = .ok (.ireturn, 1) := by decide +kernel
theorem dX7_plan_0 : decode cX7_plan 0 = .ok (.aload_n 0, 1) := by decide +kernel
theorem dX7_plan_1 : decode cX7_plan 1 = .ok (.invokevirtual 152, 3) := by decide +kernel
theorem dX7_plan_4 : decode cX7_plan 4 = .ok (.ifCond .eq 6, 3) := by decide +kernel
theorem dX7_plan_7 : decode cX7_plan 7 = .ok (.ldc 184, 2) := by decide +kernel
theorem dX7_plan_9 : decode cX7_plan 9 = .ok (.ireturn, 1) := by decide +kernel
theorem dX7_plan_10 : decode cX7_plan 10 = .ok (.aload_n 0, 1) := by decide +kernel
theorem dX7_plan_11 : decode cX7_plan 11 = .ok (.getfield 63, 3) := by decide +kernel
theorem dX7_plan_14 : decode cX7_plan 14 = .ok (.invokevirtual 231, 3) := by decide +kernel
theorem dX7_plan_17 : decode cX7_plan 17 = .ok (.ifCond .ne 18, 3) := by decide +kernel
theorem dX7_plan_20 : decode cX7_plan 20 = .ok (.aload_n 0, 1) := by decide +kernel
theorem dX7_plan_21 : decode cX7_plan 21 = .ok (.getfield 63, 3) := by decide +kernel
theorem dX7_plan_24 : decode cX7_plan 24 = .ok (.aload_n 0, 1) := by decide +kernel
theorem dX7_plan_25 : decode cX7_plan 25 = .ok (.getfield 37, 3) := by decide +kernel
theorem dX7_plan_28 : decode cX7_plan 28 = .ok (.aload_n 0, 1) := by decide +kernel
theorem dX7_plan_29 : decode cX7_plan 29 = .ok (.invokevirtual 155, 3) := by decide +kernel
theorem dX7_plan_32 : decode cX7_plan 32 = .ok (.invokevirtual 234, 3) := by decide +kernel
theorem dX7_plan_35 : decode cX7_plan 35 = .ok (.iload_n 1, 1) := by decide +kernel
theorem dX7_plan_36 : decode cX7_plan 36 = .ok (.iconst (-1), 1) := by decide +kernel
theorem dX7_plan_37 : decode cX7_plan 37 = .ok (.if_icmp .ne 13, 3) := by decide +kernel
theorem dX7_plan_40 : decode cX7_plan 40 = .ok (.aload_n 0, 1) := by decide +kernel
theorem dX7_plan_41 : decode cX7_plan 41 = .ok (.getfield 63, 3) := by decide +kernel
theorem dX7_plan_44 : decode cX7_plan 44 = .ok (.invokevirtual 238, 3) := by decide +kernel
theorem dX7_plan_47 : decode cX7_plan 47 = .ok (.goto 11, 3) := by decide +kernel
theorem dX7_plan_50 : decode cX7_plan 50 = .ok (.aload_n 0, 1) := by decide +kernel
theorem dX7_plan_51 : decode cX7_plan 51 = .ok (.getfield 63, 3) := by decide +kernel
theorem dX7_plan_54 : decode cX7_plan 54 = .ok (.iload_n 1, 1) := by decide +kernel
theorem dX7_plan_55 : decode cX7_plan 55 = .ok (.invokevirtual 241, 3) := by decide +kernel
theorem dX7_plan_58 : decode cX7_plan 58 = .ok (.ireturn, 1) := by decide +kernel
theorem dX7_belief_0 : decode cX7_belief 0 = .ok (.iload_n 1, 1) := by decide +kernel
theorem dX7_belief_1 : decode cX7_belief 1 = .ok (.ifCond .lt 19, 3) := by decide +kernel
theorem dX7_belief_4 : decode cX7_belief 4 = .ok (.iload_n 1, 1) := by decide +kernel
theorem dX7_belief_5 : decode cX7_belief 5 = .ok (.bipush 7, 2) := by decide +kernel
theorem dX7_belief_7 : decode cX7_belief 7 = .ok (.if_icmp .gt 13, 3) := by decide +kernel
theorem dX7_belief_10 : decode cX7_belief 10 = .ok (.iload_n 2, 1) := by decide +kernel
theorem dX7_belief_11 : decode cX7_belief 11 = .ok (.ifCond .lt 9, 3) := by decide +kernel
theorem dX7_belief_14 : decode cX7_belief 14 = .ok (.iload_n 2, 1) := by decide +kernel
theorem dX7_belief_15 : decode cX7_belief 15 = .ok (.bipush 9, 2) := by decide +kernel
theorem dX7_belief_17 : decode cX7_belief 17 = .ok (.if_icmp .le 6, 3) := by decide +kernel
theorem dX7_belief_20 : decode cX7_belief 20 = .ok (.ldc 80, 2) := by decide +kernel
theorem dX7_belief_22 : decode cX7_belief 22 = .ok (.ireturn, 1) := by decide +kernel
theorem dX7_belief_23 : decode cX7_belief 23 = .ok (.aload_n 0, 1) := by decide +kernel
theorem dX7_belief_24 : decode cX7_belief 24 = .ok (.getfield 30, 3) := by decide +kernel
theorem dX7_belief_27 : decode cX7_belief 27 = .ok (.iconst 0, 1) := by decide +kernel
theorem dX7_belief_28 : decode cX7_belief 28 = .ok (.aload_n 0, 1) := by decide +kernel
theorem dX7_belief_29 : decode cX7_belief 29 = .ok (.getfield 37, 3) := by decide +kernel
theorem dX7_belief_32 : decode cX7_belief 32 = .ok (.getfield 143, 3) := by decide +kernel
theorem dX7_belief_35 : decode cX7_belief 35 = .ok (.iload_n 1, 1) := by decide +kernel
theorem dX7_belief_36 : decode cX7_belief 36 = .ok (.isub, 1) := by decide +kernel
theorem dX7_belief_37 : decode cX7_belief 37 = .ok (.invokestatic 158, 3) := by decide +kernel
theorem dX7_belief_40 : decode cX7_belief 40 = .ok (.aload_n 0, 1) := by decide +kernel
theorem dX7_belief_41 : decode cX7_belief 41 = .ok (.getfield 37, 3) := by decide +kernel
theorem dX7_belief_44 : decode cX7_belief 44 = .ok (.getfield 143, 3) := by decide +kernel
theorem dX7_belief_47 : decode cX7_belief 47 = .ok (.iload_n 2, 1) := by decide +kernel
theorem dX7_belief_48 : decode cX7_belief 48 = .ok (.invokevirtual 212, 3) := by decide +kernel
theorem dX7_belief_51 : decode cX7_belief 51 = .ok (.ireturn, 1) := by decide +kernel
theorem dX7_need_0 : decode cX7_need 0 = .ok (.iload_n 1, 1) := by decide +kernel
theorem dX7_need_1 : decode cX7_need 1 = .ok (.ifCond .lt 18, 3) := by decide +kernel
theorem dX7_need_4 : decode cX7_need 4 = .ok (.iload_n 1, 1) := by decide +kernel
theorem dX7_need_5 : decode cX7_need 5 = .ok (.bipush 9, 2) := by decide +kernel
theorem dX7_need_7 : decode cX7_need 7 = .ok (.if_icmp .gt 12, 3) := by decide +kernel
theorem dX7_need_10 : decode cX7_need 10 = .ok (.iload_n 2, 1) := by decide +kernel
theorem dX7_need_11 : decode cX7_need 11 = .ok (.ifCond .lt 8, 3) := by decide +kernel
theorem dX7_need_14 : decode cX7_need 14 = .ok (.iload_n 2, 1) := by decide +kernel
theorem dX7_need_15 : decode cX7_need 15 = .ok (.iconst 1, 1) := by decide +kernel
theorem dX7_need_16 : decode cX7_need 16 = .ok (.if_icmp .le 6, 3) := by decide +kernel
theorem dX7_need_19 : decode cX7_need 19 = .ok (.ldc 80, 2) := by decide +kernel
theorem dX7_need_21 : decode cX7_need 21 = .ok (.ireturn, 1) := by decide +kernel
theorem dX7_need_22 : decode cX7_need 22 = .ok (.aload_n 0, 1) := by decide +kernel
theorem dX7_need_23 : decode cX7_need 23 = .ok (.invokevirtual 181, 3) := by decide +kernel
theorem dX7_need_26 : decode cX7_need 26 = .ok (.ifCond .ne 6, 3) := by decide +kernel
theorem dX7_need_29 : decode cX7_need 29 = .ok (.ldc 184, 2) := by decide +kernel
theorem dX7_need_31 : decode cX7_need 31 = .ok (.ireturn, 1) := by decide +kernel
theorem dX7_need_32 : decode cX7_need 32 = .ok (.iconst 0, 1) := by decide +kernel
theorem dX7_need_33 : decode cX7_need 33 = .ok (.iload_n 1, 1) := by decide +kernel
theorem dX7_need_34 : decode cX7_need 34 = .ok (.aload_n 0, 1) := by decide +kernel
theorem dX7_need_35 : decode cX7_need 35 = .ok (.getfield 37, 3) := by decide +kernel
theorem dX7_need_38 : decode cX7_need 38 = .ok (.getfield 131, 3) := by decide +kernel
theorem dX7_need_41 : decode cX7_need 41 = .ok (.isub, 1) := by decide +kernel
theorem dX7_need_42 : decode cX7_need 42 = .ok (.invokestatic 158, 3) := by decide +kernel
theorem dX7_need_45 : decode cX7_need 45 = .ok (.aload_n 0, 1) := by decide +kernel
theorem dX7_need_46 : decode cX7_need 46 = .ok (.invokevirtual 198, 3) := by decide +kernel
theorem dX7_need_49 : decode cX7_need 49 = .ok (.imul, 1) := by decide +kernel
theorem dX7_need_50 : decode cX7_need 50 = .ok (.istore_n 3, 1) := by decide +kernel
theorem dX7_need_51 : decode cX7_need 51 = .ok (.iconst 0, 1) := by decide +kernel
theorem dX7_need_52 : decode cX7_need 52 = .ok (.iload_n 3, 1) := by decide +kernel
theorem dX7_need_53 : decode cX7_need 53 = .ok (.aload_n 0, 1) := by decide +kernel
theorem dX7_need_54 : decode cX7_need 54 = .ok (.getfield 37, 3) := by decide +kernel
theorem dX7_need_57 : decode cX7_need 57 = .ok (.getfield 134, 3) := by decide +kernel
theorem dX7_need_60 : decode cX7_need 60 = .ok (.isub, 1) := by decide +kernel
theorem dX7_need_61 : decode cX7_need 61 = .ok (.invokestatic 158, 3) := by decide +kernel
theorem dX7_need_64 : decode cX7_need 64 = .ok (.istore 4, 2) := by decide +kernel
theorem dX7_need_66 : decode cX7_need 66 = .ok (.iload_n 2, 1) := by decide +kernel
theorem dX7_need_67 : decode cX7_need 67 = .ok (.ifCond .ne 8, 3) := by decide +kernel
theorem dX7_need_70 : decode cX7_need 70 = .ok (.iload 4, 2) := by decide +kernel
theorem dX7_need_72 : decode cX7_need 72 = .ok (.goto 9, 3) := by decide +kernel
theorem dX7_need_75 : decode cX7_need 75 = .ok (.aload_n 0, 1) := by decide +kernel
theorem dX7_need_76 : decode cX7_need 76 = .ok (.iload 4, 2) := by decide +kernel
theorem dX7_need_78 : decode cX7_need 78 = .ok (.invokevirtual 244, 3) := by decide +kernel
theorem dX7_need_81 : decode cX7_need 81 = .ok (.ireturn, 1) := by decide +kernel
theorem dX7_tell_0 : decode cX7_tell 0 = .ok (.aload_n 0, 1) := by decide +kernel
theorem dX7_tell_1 : decode cX7_tell 1 = .ok (.getfield 37, 3) := by decide +kernel
theorem dX7_tell_4 : decode cX7_tell 4 = .ok (.getfield 140, 3) := by decide +kernel
theorem dX7_tell_7 : decode cX7_tell 7 = .ok (.iload_n 1, 1) := by decide +kernel
theorem dX7_tell_8 : decode cX7_tell 8 = .ok (.invokevirtual 166, 3) := by decide +kernel
theorem dX7_tell_11 : decode cX7_tell 11 = .ok (.ifCond .ne 6, 3) := by decide +kernel
theorem dX7_tell_14 : decode cX7_tell 14 = .ok (.ldc 170, 2) := by decide +kernel
theorem dX7_tell_16 : decode cX7_tell 16 = .ok (.ireturn, 1) := by decide +kernel
theorem dX7_tell_17 : decode cX7_tell 17 = .ok (.iload_n 2, 1) := by decide +kernel
theorem dX7_tell_18 : decode cX7_tell 18 = .ok (.ifCond .lt 10, 3) := by decide +kernel
theorem dX7_tell_21 : decode cX7_tell 21 = .ok (.iload_n 2, 1) := by decide +kernel
theorem dX7_tell_22 : decode cX7_tell 22 = .ok (.sipush 9999, 3) := by decide +kernel
theorem dX7_tell_25 : decode cX7_tell 25 = .ok (.if_icmp .le 6, 3) := by decide +kernel
theorem dX7_tell_28 : decode cX7_tell 28 = .ok (.ldc 80, 2) := by decide +kernel
theorem dX7_tell_30 : decode cX7_tell 30 = .ok (.ireturn, 1) := by decide +kernel
theorem dX7_tell_31 : decode cX7_tell 31 = .ok (.aload_n 0, 1) := by decide +kernel
theorem dX7_tell_32 : decode cX7_tell 32 = .ok (.getfield 67, 3) := by decide +kernel
theorem dX7_tell_35 : decode cX7_tell 35 = .ok (.invokevirtual 81, 3) := by decide +kernel
theorem dX7_tell_38 : decode cX7_tell 38 = .ok (.ifCond .eq 6, 3) := by decide +kernel
theorem dX7_tell_41 : decode cX7_tell 41 = .ok (.ldc 85, 2) := by decide +kernel
theorem dX7_tell_43 : decode cX7_tell 43 = .ok (.ireturn, 1) := by decide +kernel
theorem dX7_tell_44 : decode cX7_tell 44 = .ok (.aload_n 0, 1) := by decide +kernel
theorem dX7_tell_45 : decode cX7_tell 45 = .ok (.getfield 67, 3) := by decide +kernel
theorem dX7_tell_48 : decode cX7_tell 48 = .ok (.invokevirtual 188, 3) := by decide +kernel
theorem dX7_tell_51 : decode cX7_tell 51 = .ok (.istore_n 3, 1) := by decide +kernel
theorem dX7_tell_52 : decode cX7_tell 52 = .ok (.aload_n 0, 1) := by decide +kernel
theorem dX7_tell_53 : decode cX7_tell 53 = .ok (.getfield 67, 3) := by decide +kernel
theorem dX7_tell_56 : decode cX7_tell 56 = .ok (.iload_n 3, 1) := by decide +kernel
theorem dX7_tell_57 : decode cX7_tell 57 = .ok (.iconst 0, 1) := by decide +kernel
theorem dX7_tell_58 : decode cX7_tell 58 = .ok (.iload_n 1, 1) := by decide +kernel
theorem dX7_tell_59 : decode cX7_tell 59 = .ok (.invokevirtual 191, 3) := by decide +kernel
theorem dX7_tell_62 : decode cX7_tell 62 = .ok (.aload_n 0, 1) := by decide +kernel
theorem dX7_tell_63 : decode cX7_tell 63 = .ok (.getfield 67, 3) := by decide +kernel
theorem dX7_tell_66 : decode cX7_tell 66 = .ok (.iload_n 3, 1) := by decide +kernel
theorem dX7_tell_67 : decode cX7_tell 67 = .ok (.iconst 1, 1) := by decide +kernel
theorem dX7_tell_68 : decode cX7_tell 68 = .ok (.iload_n 2, 1) := by decide +kernel
theorem dX7_tell_69 : decode cX7_tell 69 = .ok (.invokevirtual 191, 3) := by decide +kernel
theorem dX7_tell_72 : decode cX7_tell 72 = .ok (.aload_n 0, 1) := by decide +kernel
theorem dX7_tell_73 : decode cX7_tell 73 = .ok (.getfield 67, 3) := by decide +kernel
theorem dX7_tell_76 : decode cX7_tell 76 = .ok (.invokevirtual 90, 3) := by decide +kernel
theorem dX7_tell_79 : decode cX7_tell 79 = .ok (.ireturn, 1) := by decide +kernel
theorem dX7_worth_0 : decode cX7_worth 0 = .ok (.iload_n 1, 1) := by decide +kernel
theorem dX7_worth_1 : decode cX7_worth 1 = .ok (.ifCond .lt 8, 3) := by decide +kernel
theorem dX7_worth_4 : decode cX7_worth 4 = .ok (.iload_n 1, 1) := by decide +kernel
theorem dX7_worth_5 : decode cX7_worth 5 = .ok (.iconst 2, 1) := by decide +kernel
theorem dX7_worth_6 : decode cX7_worth 6 = .ok (.if_icmp .le 6, 3) := by decide +kernel
theorem dX7_worth_9 : decode cX7_worth 9 = .ok (.ldc 80, 2) := by decide +kernel
theorem dX7_worth_11 : decode cX7_worth 11 = .ok (.ireturn, 1) := by decide +kernel
theorem dX7_worth_12 : decode cX7_worth 12 = .ok (.aload_n 0, 1) := by decide +kernel
theorem dX7_worth_13 : decode cX7_worth 13 = .ok (.invokevirtual 152, 3) := by decide +kernel
theorem dX7_worth_16 : decode cX7_worth 16 = .ok (.ifCond .eq 6, 3) := by decide +kernel
theorem dX7_worth_19 : decode cX7_worth 19 = .ok (.ldc 184, 2) := by decide +kernel
theorem dX7_worth_21 : decode cX7_worth 21 = .ok (.ireturn, 1) := by decide +kernel
theorem dX7_worth_22 : decode cX7_worth 22 = .ok (.iconst 0, 1) := by decide +kernel
theorem dX7_worth_23 : decode cX7_worth 23 = .ok (.istore_n 2, 1) := by decide +kernel
theorem dX7_worth_24 : decode cX7_worth 24 = .ok (.sipush 999, 3) := by decide +kernel
theorem dX7_worth_27 : decode cX7_worth 27 = .ok (.istore_n 3, 1) := by decide +kernel
theorem dX7_worth_28 : decode cX7_worth 28 = .ok (.iconst 0, 1) := by decide +kernel
theorem dX7_worth_29 : decode cX7_worth 29 = .ok (.istore 4, 2) := by decide +kernel
theorem dX7_worth_31 : decode cX7_worth 31 = .ok (.iload 4, 2) := by decide +kernel
theorem dX7_worth_33 : decode cX7_worth 33 = .ok (.aload_n 0, 1) := by decide +kernel
theorem dX7_worth_34 : decode cX7_worth 34 = .ok (.getfield 67, 3) := by decide +kernel
theorem dX7_worth_37 : decode cX7_worth 37 = .ok (.invokevirtual 90, 3) := by decide +kernel
theorem dX7_worth_40 : decode cX7_worth 40 = .ok (.if_icmp .ge 31, 3) := by decide +kernel
theorem dX7_worth_43 : decode cX7_worth 43 = .ok (.iload_n 2, 1) := by decide +kernel
theorem dX7_worth_44 : decode cX7_worth 44 = .ok (.aload_n 0, 1) := by decide +kernel
theorem dX7_worth_45 : decode cX7_worth 45 = .ok (.iload 4, 2) := by decide +kernel
theorem dX7_worth_47 : decode cX7_worth 47 = .ok (.invokevirtual 247, 3) := by decide +kernel
theorem dX7_worth_50 : decode cX7_worth 50 = .ok (.invokestatic 158, 3) := by decide +kernel
theorem dX7_worth_53 : decode cX7_worth 53 = .ok (.istore_n 2, 1) := by decide +kernel
theorem dX7_worth_54 : decode cX7_worth 54 = .ok (.iload_n 3, 1) := by decide +kernel
theorem dX7_worth_55 : decode cX7_worth 55 = .ok (.aload_n 0, 1) := by decide +kernel
theorem dX7_worth_56 : decode cX7_worth 56 = .ok (.iload 4, 2) := by decide +kernel
theorem dX7_worth_58 : decode cX7_worth 58 = .ok (.invokevirtual 250, 3) := by decide +kernel
theorem dX7_worth_61 : decode cX7_worth 61 = .ok (.invokestatic 253, 3) := by decide +kernel
theorem dX7_worth_64 : decode cX7_worth 64 = .ok (.istore_n 3, 1) := by decide +kernel
theorem dX7_worth_65 : decode cX7_worth 65 = .ok (.iinc 4 1, 3) := by decide +kernel
theorem dX7_worth_68 : decode cX7_worth 68 = .ok (.goto (-37), 3) := by decide +kernel
theorem dX7_worth_71 : decode cX7_worth 71 = .ok (.iconst 0, 1) := by decide +kernel
theorem dX7_worth_72 : decode cX7_worth 72 = .ok (.iload_n 3, 1) := by decide +kernel
theorem dX7_worth_73 : decode cX7_worth 73 = .ok (.iload_n 2, 1) := by decide +kernel
theorem dX7_worth_74 : decode cX7_worth 74 = .ok (.isub, 1) := by decide +kernel
theorem dX7_worth_75 : decode cX7_worth 75 = .ok (.iconst 1, 1) := by decide +kernel
theorem dX7_worth_76 : decode cX7_worth 76 = .ok (.iadd, 1) := by decide +kernel
theorem dX7_worth_77 : decode cX7_worth 77 = .ok (.invokestatic 158, 3) := by decide +kernel
theorem dX7_worth_80 : decode cX7_worth 80 = .ok (.istore 4, 2) := by decide +kernel
theorem dX7_worth_82 : decode cX7_worth 82 = .ok (.iload_n 1, 1) := by decide +kernel
theorem dX7_worth_83 : decode cX7_worth 83 = .ok (.ifCond .ne 6, 3) := by decide +kernel
theorem dX7_worth_86 : decode cX7_worth 86 = .ok (.iload 4, 2) := by decide +kernel
theorem dX7_worth_88 : decode cX7_worth 88 = .ok (.ireturn, 1) := by decide +kernel
theorem dX7_worth_89 : decode cX7_worth 89 = .ok (.iload 4, 2) := by decide +kernel
theorem dX7_worth_91 : decode cX7_worth 91 = .ok (.ifCond .ne 5, 3) := by decide +kernel
theorem dX7_worth_94 : decode cX7_worth 94 = .ok (.iconst (-1), 1) := by decide +kernel
theorem dX7_worth_95 : decode cX7_worth 95 = .ok (.ireturn, 1) := by decide +kernel
theorem dX7_worth_96 : decode cX7_worth 96 = .ok (.iload_n 1, 1) := by decide +kernel
theorem dX7_worth_97 : decode cX7_worth 97 = .ok (.iconst 1, 1) := by decide +kernel
theorem dX7_worth_98 : decode cX7_worth 98 = .ok (.if_icmp .ne 7, 3) := by decide +kernel
theorem dX7_worth_101 : decode cX7_worth 101 = .ok (.iload_n 2, 1) := by decide +kernel
theorem dX7_worth_102 : decode cX7_worth 102 = .ok (.goto 4, 3) := by decide +kernel
theorem dX7_worth_105 : decode cX7_worth 105 = .ok (.iload_n 3, 1) := by decide +kernel
theorem dX7_worth_106 : decode cX7_worth 106 = .ok (.ireturn, 1) := by decide +kernel
theorem dX7_write_0 : decode cX7_write 0 = .ok (.iload_n 1, 1) := by decide +kernel
theorem dX7_write_1 : decode cX7_write 1 = .ok (.ifCond .lt 10, 3) := by decide +kernel
theorem dX7_write_4 : decode cX7_write 4 = .ok (.iload_n 1, 1) := by decide +kernel
theorem dX7_write_5 : decode cX7_write 5 = .ok (.sipush 9999, 3) := by decide +kernel
theorem dX7_write_8 : decode cX7_write 8 = .ok (.if_icmp .le 6, 3) := by decide +kernel
theorem dX7_write_11 : decode cX7_write 11 = .ok (.ldc 80, 2) := by decide +kernel
theorem dX7_write_13 : decode cX7_write 13 = .ok (.ireturn, 1) := by decide +kernel
theorem dX7_write_14 : decode cX7_write 14 = .ok (.aload_n 0, 1) := by decide +kernel
theorem dX7_write_15 : decode cX7_write 15 = .ok (.getfield 70, 3) := by decide +kernel
theorem dX7_write_18 : decode cX7_write 18 = .ok (.invokevirtual 81, 3) := by decide +kernel
theorem dX7_write_21 : decode cX7_write 21 = .ok (.ifCond .eq 6, 3) := by decide +kernel
theorem dX7_write_24 : decode cX7_write 24 = .ok (.ldc 85, 2) := by decide +kernel
theorem dX7_write_26 : decode cX7_write 26 = .ok (.ireturn, 1) := by decide +kernel
theorem dX7_write_27 : decode cX7_write 27 = .ok (.aload_n 0, 1) := by decide +kernel
theorem dX7_write_28 : decode cX7_write 28 = .ok (.getfield 70, 3) := by decide +kernel
theorem dX7_write_31 : decode cX7_write 31 = .ok (.iload_n 1, 1) := by decide +kernel
theorem dX7_write_32 : decode cX7_write 32 = .ok (.invokevirtual 86, 3) := by decide +kernel
theorem dX7_write_35 : decode cX7_write 35 = .ok (.aload_n 0, 1) := by decide +kernel
theorem dX7_write_36 : decode cX7_write 36 = .ok (.getfield 70, 3) := by decide +kernel
theorem dX7_write_39 : decode cX7_write 39 = .ok (.invokevirtual 90, 3) := by decide +kernel
theorem dX7_write_42 : decode cX7_write 42 = .ok (.ireturn, 1) := by decide +kernel
theorem dX7_tear_0 : decode cX7_tear 0 = .ok (.aload_n 0, 1) := by decide +kernel
theorem dX7_tear_1 : decode cX7_tear 1 = .ok (.getfield 67, 3) := by decide +kernel
theorem dX7_tear_4 : decode cX7_tear 4 = .ok (.invokevirtual 90, 3) := by decide +kernel
theorem dX7_tear_7 : decode cX7_tear 7 = .ok (.aload_n 0, 1) := by decide +kernel
theorem dX7_tear_8 : decode cX7_tear 8 = .ok (.getfield 70, 3) := by decide +kernel
theorem dX7_tear_11 : decode cX7_tear 11 = .ok (.invokevirtual 90, 3) := by decide +kernel
theorem dX7_tear_14 : decode cX7_tear 14 = .ok (.iadd, 1) := by decide +kernel
theorem dX7_tear_15 : decode cX7_tear 15 = .ok (.istore_n 1, 1) := by decide +kernel
theorem dX7_tear_16 : decode cX7_tear 16 = .ok (.aload_n 0, 1) := by decide +kernel
theorem dX7_tear_17 : decode cX7_tear 17 = .ok (.getfield 67, 3) := by decide +kernel
theorem dX7_tear_20 : decode cX7_tear 20 = .ok (.invokevirtual 100, 3) := by decide +kernel
theorem dX7_tear_23 : decode cX7_tear 23 = .ok (.aload_n 0, 1) := by decide +kernel
theorem dX7_tear_24 : decode cX7_tear 24 = .ok (.getfield 70, 3) := by decide +kernel
theorem dX7_tear_27 : decode cX7_tear 27 = .ok (.invokevirtual 100, 3) := by decide +kernel
theorem dX7_tear_30 : decode cX7_tear 30 = .ok (.iload_n 1, 1) := by decide +kernel
theorem dX7_tear_31 : decode cX7_tear 31 = .ok (.ireturn, 1) := by decide +kernel
theorem dX7_judge_0 : decode cX7_judge 0 = .ok (.iconst 0, 1) := by decide +kernel
theorem dX7_judge_1 : decode cX7_judge 1 = .ok (.istore_n 1, 1) := by decide +kernel
theorem dX7_judge_2 : decode cX7_judge 2 = .ok (.iload_n 1, 1) := by decide +kernel
theorem dX7_judge_3 : decode cX7_judge 3 = .ok (.aload_n 0, 1) := by decide +kernel
theorem dX7_judge_4 : decode cX7_judge 4 = .ok (.getfield 70, 3) := by decide +kernel
theorem dX7_judge_7 : decode cX7_judge 7 = .ok (.invokevirtual 90, 3) := by decide +kernel
theorem dX7_judge_10 : decode cX7_judge 10 = .ok (.if_icmp .ge 30, 3) := by decide +kernel
theorem dX7_judge_13 : decode cX7_judge 13 = .ok (.aload_n 0, 1) := by decide +kernel
theorem dX7_judge_14 : decode cX7_judge 14 = .ok (.getfield 70, 3) := by decide +kernel
theorem dX7_judge_17 : decode cX7_judge 17 = .ok (.iload_n 1, 1) := by decide +kernel
theorem dX7_judge_18 : decode cX7_judge 18 = .ok (.iconst 0, 1) := by decide +kernel
theorem dX7_judge_19 : decode cX7_judge 19 = .ok (.invokevirtual 127, 3) := by decide +kernel
theorem dX7_judge_22 : decode cX7_judge 22 = .ok (.aload_n 0, 1) := by decide +kernel
theorem dX7_judge_23 : decode cX7_judge 23 = .ok (.getfield 37, 3) := by decide +kernel
theorem dX7_judge_26 : decode cX7_judge 26 = .ok (.getfield 134, 3) := by decide +kernel
theorem dX7_judge_29 : decode cX7_judge 29 = .ok (.if_icmp .eq 5, 3) := by decide +kernel
theorem dX7_judge_32 : decode cX7_judge 32 = .ok (.iload_n 1, 1) := by decide +kernel
theorem dX7_judge_33 : decode cX7_judge 33 = .ok (.ireturn, 1) := by decide +kernel
theorem dX7_judge_34 : decode cX7_judge 34 = .ok (.iinc 1 1, 3) := by decide +kernel
theorem dX7_judge_37 : decode cX7_judge 37 = .ok (.goto (-35), 3) := by decide +kernel
theorem dX7_judge_40 : decode cX7_judge 40 = .ok (.iconst (-1), 1) := by decide +kernel
theorem dX7_judge_41 : decode cX7_judge 41 = .ok (.ireturn, 1) := by decide +kernel
theorem dX7_seed_0 : decode cX7_seed 0 = .ok (.iload_n 1, 1) := by decide +kernel
theorem dX7_seed_1 : decode cX7_seed 1 = .ok (.ifCond .ge 6, 3) := by decide +kernel
theorem dX7_seed_4 : decode cX7_seed 4 = .ok (.ldc 80, 2) := by decide +kernel
theorem dX7_seed_6 : decode cX7_seed 6 = .ok (.ireturn, 1) := by decide +kernel
theorem dX7_seed_7 : decode cX7_seed 7 = .ok (.aload_n 0, 1) := by decide +kernel
theorem dX7_seed_8 : decode cX7_seed 8 = .ok (.getfield 77, 3) := by decide +kernel
theorem dX7_seed_11 : decode cX7_seed 11 = .ok (.istore_n 2, 1) := by decide +kernel
theorem dX7_seed_12 : decode cX7_seed 12 = .ok (.aload_n 0, 1) := by decide +kernel
theorem dX7_seed_13 : decode cX7_seed 13 = .ok (.iload_n 1, 1) := by decide +kernel
theorem dX7_seed_14 : decode cX7_seed 14 = .ok (.putfield 77, 3) := by decide +kernel
theorem dX7_seed_17 : decode cX7_seed 17 = .ok (.iload_n 2, 1) := by decide +kernel
theorem dX7_seed_18 : decode cX7_seed 18 = .ok (.ireturn, 1) := by decide +kernel
theorem dX7_keep_0 : decode cX7_keep 0 = .ok (.aload_n 0, 1) := by decide +kernel
theorem dX7_keep_1 : decode cX7_keep 1 = .ok (.iload_n 1, 1) := by decide +kernel
theorem dX7_keep_2 : decode cX7_keep 2 = .ok (.invokevirtual 256, 3) := by decide +kernel
theorem dX7_keep_5 : decode cX7_keep 5 = .ok (.astore_n 2, 1) := by decide +kernel
theorem dX7_keep_6 : decode cX7_keep 6 = .ok (.aload_n 2, 1) := by decide +kernel
theorem dX7_keep_7 : decode cX7_keep 7 = .ok (.ifnonnull 6, 3) := by decide +kernel
theorem dX7_keep_10 : decode cX7_keep 10 = .ok (.ldc 170, 2) := by decide +kernel
theorem dX7_keep_12 : decode cX7_keep 12 = .ok (.ireturn, 1) := by decide +kernel
theorem dX7_keep_13 : decode cX7_keep 13 = .ok (.aload_n 2, 1) := by decide +kernel
theorem dX7_keep_14 : decode cX7_keep 14 = .ok (.getfield 260, 3) := by decide +kernel
theorem dX7_keep_17 : decode cX7_keep 17 = .ok (.aload_n 0, 1) := by decide +kernel
theorem dX7_keep_18 : decode cX7_keep 18 = .ok (.getfield 37, 3) := by decide +kernel
theorem dX7_keep_21 : decode cX7_keep 21 = .ok (.invokevirtual 262, 3) := by decide +kernel
theorem dX7_keep_24 : decode cX7_keep 24 = .ok (.aload_n 2, 1) := by decide +kernel
theorem dX7_keep_25 : decode cX7_keep 25 = .ok (.aload_n 0, 1) := by decide +kernel
theorem dX7_keep_26 : decode cX7_keep 26 = .ok (.getfield 77, 3) := by decide +kernel
theorem dX7_keep_29 : decode cX7_keep 29 = .ok (.putfield 264, 3) := by decide +kernel
theorem dX7_keep_32 : decode cX7_keep 32 = .ok (.aload_n 2, 1) := by decide +kernel
theorem dX7_keep_33 : decode cX7_keep 33 = .ok (.iconst 1, 1) := by decide +kernel
theorem dX7_keep_34 : decode cX7_keep 34 = .ok (.putfield 113, 3) := by decide +kernel
theorem dX7_keep_37 : decode cX7_keep 37 = .ok (.aload_n 0, 1) := by decide +kernel
theorem dX7_keep_38 : decode cX7_keep 38 = .ok (.getfield 44, 3) := by decide +kernel
theorem dX7_keep_41 : decode cX7_keep 41 = .ok (.invokevirtual 117, 3) := by decide +kernel
theorem dX7_keep_44 : decode cX7_keep 44 = .ok (.iconst 1, 1) := by decide +kernel
theorem dX7_keep_45 : decode cX7_keep 45 = .ok (.ireturn, 1) := by decide +kernel
theorem dX7_goBack_0 : decode cX7_goBack 0 = .ok (.aload_n 0, 1) := by decide +kernel
theorem dX7_goBack_1 : decode cX7_goBack 1 = .ok (.iload_n 1, 1) := by decide +kernel
theorem dX7_goBack_2 : decode cX7_goBack 2 = .ok (.invokevirtual 256, 3) := by decide +kernel
theorem dX7_goBack_5 : decode cX7_goBack 5 = .ok (.astore_n 2, 1) := by decide +kernel
theorem dX7_goBack_6 : decode cX7_goBack 6 = .ok (.aload_n 2, 1) := by decide +kernel
theorem dX7_goBack_7 : decode cX7_goBack 7 = .ok (.ifnonnull 6, 3) := by decide +kernel
theorem dX7_goBack_10 : decode cX7_goBack 10 = .ok (.ldc 170, 2) := by decide +kernel
theorem dX7_goBack_12 : decode cX7_goBack 12 = .ok (.ireturn, 1) := by decide +kernel
theorem dX7_goBack_13 : decode cX7_goBack 13 = .ok (.aload_n 2, 1) := by decide +kernel
theorem dX7_goBack_14 : decode cX7_goBack 14 = .ok (.getfield 113, 3) := by decide +kernel
theorem dX7_goBack_17 : decode cX7_goBack 17 = .ok (.ifCond .ne 6, 3) := by decide +kernel
theorem dX7_goBack_20 : decode cX7_goBack 20 = .ok (.ldc 184, 2) := by decide +kernel
theorem dX7_goBack_22 : decode cX7_goBack 22 = .ok (.ireturn, 1) := by decide +kernel
theorem dX7_goBack_23 : decode cX7_goBack 23 = .ok (.aload_n 0, 1) := by decide +kernel
theorem dX7_goBack_24 : decode cX7_goBack 24 = .ok (.getfield 37, 3) := by decide +kernel
theorem dX7_goBack_27 : decode cX7_goBack 27 = .ok (.aload_n 2, 1) := by decide +kernel
theorem dX7_goBack_28 : decode cX7_goBack 28 = .ok (.getfield 260, 3) := by decide +kernel
theorem dX7_goBack_31 : decode cX7_goBack 31 = .ok (.invokevirtual 262, 3) := by decide +kernel
theorem dX7_goBack_34 : decode cX7_goBack 34 = .ok (.aload_n 0, 1) := by decide +kernel
theorem dX7_goBack_35 : decode cX7_goBack 35 = .ok (.aload_n 2, 1) := by decide +kernel
theorem dX7_goBack_36 : decode cX7_goBack 36 = .ok (.getfield 264, 3) := by decide +kernel
theorem dX7_goBack_39 : decode cX7_goBack 39 = .ok (.putfield 77, 3) := by decide +kernel
theorem dX7_goBack_42 : decode cX7_goBack 42 = .ok (.aload_n 0, 1) := by decide +kernel
theorem dX7_goBack_43 : decode cX7_goBack 43 = .ok (.getfield 44, 3) := by decide +kernel
theorem dX7_goBack_46 : decode cX7_goBack 46 = .ok (.invokevirtual 117, 3) := by decide +kernel
theorem dX7_goBack_49 : decode cX7_goBack 49 = .ok (.aload_n 0, 1) := by decide +kernel
theorem dX7_goBack_50 : decode cX7_goBack 50 = .ok (.getfield 63, 3) := by decide +kernel
theorem dX7_goBack_53 : decode cX7_goBack 53 = .ok (.invokevirtual 118, 3) := by decide +kernel
theorem dX7_goBack_56 : decode cX7_goBack 56 = .ok (.iconst 1, 1) := by decide +kernel
theorem dX7_goBack_57 : decode cX7_goBack 57 = .ok (.ireturn, 1) := by decide +kernel
theorem dX7_whereSheIs_0 : decode cX7_whereSheIs 0 = .ok (.aload_n 0, 1) := by decide +kernel
theorem dX7_whereSheIs_1 : decode cX7_whereSheIs 1 = .ok (.getfield 37, 3) := by decide +kernel
theorem dX7_whereSheIs_4 : decode cX7_whereSheIs 4 = .ok (.getfield 267, 3) := by decide +kernel
theorem dX7_whereSheIs_7 : decode cX7_whereSheIs 7 = .ok (.ifCond .eq 5, 3) := by decide +kernel
theorem dX7_whereSheIs_10 : decode cX7_whereSheIs 10 = .ok (.iconst 2, 1) := by decide +kernel
theorem dX7_whereSheIs_11 : decode cX7_whereSheIs 11 = .ok (.ireturn, 1) := by decide +kernel
theorem dX7_whereSheIs_12 : decode cX7_whereSheIs 12 = .ok (.aload_n 0, 1) := by decide +kernel
theorem dX7_whereSheIs_13 : decode cX7_whereSheIs 13 = .ok (.getfield 30, 3) := by decide +kernel
theorem dX7_whereSheIs_16 : decode cX7_whereSheIs 16 = .ok (.getfield 121, 3) := by decide +kernel
theorem dX7_whereSheIs_19 : decode cX7_whereSheIs 19 = .ok (.aload_n 0, 1) := by decide +kernel
theorem dX7_whereSheIs_20 : decode cX7_whereSheIs 20 = .ok (.getfield 37, 3) := by decide +kernel
theorem dX7_whereSheIs_23 : decode cX7_whereSheIs 23 = .ok (.getfield 143, 3) := by decide +kernel
theorem dX7_whereSheIs_26 : decode cX7_whereSheIs 26 = .ok (.invokevirtual 166, 3) := by decide +kernel
theorem dX7_whereSheIs_29 : decode cX7_whereSheIs 29 = .ok (.ifCond .eq 7, 3) := by decide +kernel
theorem dX7_whereSheIs_32 : decode cX7_whereSheIs 32 = .ok (.iconst 0, 1) := by decide +kernel
theorem dX7_whereSheIs_33 : decode cX7_whereSheIs 33 = .ok (.goto 4, 3) := by decide +kernel
theorem dX7_whereSheIs_36 : decode cX7_whereSheIs 36 = .ok (.iconst 1, 1) := by decide +kernel
theorem dX7_whereSheIs_37 : decode cX7_whereSheIs 37 = .ok (.ireturn, 1) := by decide +kernel
theorem dX7_isInPort_0 : decode cX7_isInPort 0 = .ok (.aload_n 0, 1) := by decide +kernel
theorem dX7_isInPort_1 : decode cX7_isInPort 1 = .ok (.invokevirtual 146, 3) := by decide +kernel
theorem dX7_isInPort_4 : decode cX7_isInPort 4 = .ok (.ifCond .ne 7, 3) := by decide +kernel
theorem dX7_isInPort_7 : decode cX7_isInPort 7 = .ok (.iconst 1, 1) := by decide +kernel
theorem dX7_isInPort_8 : decode cX7_isInPort 8 = .ok (.goto 4, 3) := by decide +kernel
theorem dX7_isInPort_11 : decode cX7_isInPort 11 = .ok (.iconst 0, 1) := by decide +kernel
theorem dX7_isInPort_12 : decode cX7_isInPort 12 = .ok (.ireturn, 1) := by decide +kernel
theorem dX7_cannotTry_0 : decode cX7_cannotTry 0 = .ok (.aload_n 0, 1) := by decide +kernel
theorem dX7_cannotTry_1 : decode cX7_cannotTry 1 = .ok (.getfield 37, 3) := by decide +kernel
theorem dX7_cannotTry_4 : decode cX7_cannotTry 4 = .ok (.getfield 267, 3) := by decide +kernel
theorem dX7_cannotTry_7 : decode cX7_cannotTry 7 = .ok (.ifCond .ne 16, 3) := by decide +kernel
theorem dX7_cannotTry_10 : decode cX7_cannotTry 10 = .ok (.aload_n 0, 1) := by decide +kernel
theorem dX7_cannotTry_11 : decode cX7_cannotTry 11 = .ok (.getfield 30, 3) := by decide +kernel
theorem dX7_cannotTry_14 : decode cX7_cannotTry 14 = .ok (.getfield 124, 3) := by decide +kernel
theorem dX7_cannotTry_17 : decode cX7_cannotTry 17 = .ok (.invokevirtual 90, 3) := by decide +kernel
theorem dX7_cannotTry_20 : decode cX7_cannotTry 20 = .ok (.ifCond .ne 7, 3) := by decide +kernel
theorem dX7_cannotTry_23 : decode cX7_cannotTry 23 = .ok (.iconst 1, 1) := by decide +kernel
theorem dX7_cannotTry_24 : decode cX7_cannotTry 24 = .ok (.goto 4, 3) := by decide +kernel
theorem dX7_cannotTry_27 : decode cX7_cannotTry 27 = .ok (.iconst 0, 1) := by decide +kernel
theorem dX7_cannotTry_28 : decode cX7_cannotTry 28 = .ok (.ireturn, 1) := by decide +kernel
theorem dX7_costHere_0 : decode cX7_costHere 0 = .ok (.aload_n 0, 1) := by decide +kernel
theorem dX7_costHere_1 : decode cX7_costHere 1 = .ok (.getfield 30, 3) := by decide +kernel
theorem dX7_costHere_4 : decode cX7_costHere 4 = .ok (.getfield 121, 3) := by decide +kernel
theorem dX7_costHere_7 : decode cX7_costHere 7 = .ok (.aload_n 0, 1) := by decide +kernel
theorem dX7_costHere_8 : decode cX7_costHere 8 = .ok (.getfield 37, 3) := by decide +kernel
theorem dX7_costHere_11 : decode cX7_costHere 11 = .ok (.getfield 143, 3) := by decide +kernel
theorem dX7_costHere_14 : decode cX7_costHere 14 = .ok (.iconst 2, 1) := by decide +kernel
theorem dX7_costHere_15 : decode cX7_costHere 15 = .ok (.invokevirtual 127, 3) := by decide +kernel
theorem dX7_costHere_18 : decode cX7_costHere 18 = .ok (.ireturn, 1) := by decide +kernel
theorem dX7_remember_0 : decode cX7_remember 0 = .ok (.aload_n 0, 1) := by decide +kernel
theorem dX7_remember_1 : decode cX7_remember 1 = .ok (.getfield 44, 3) := by decide +kernel
theorem dX7_remember_4 : decode cX7_remember 4 = .ok (.aload_n 0, 1) := by decide +kernel
theorem dX7_remember_5 : decode cX7_remember 5 = .ok (.getfield 37, 3) := by decide +kernel
theorem dX7_remember_8 : decode cX7_remember 8 = .ok (.invokevirtual 270, 3) := by decide +kernel
theorem dX7_remember_11 : decode cX7_remember 11 = .ok (.aload_n 0, 1) := by decide +kernel
theorem dX7_remember_12 : decode cX7_remember 12 = .ok (.getfield 63, 3) := by decide +kernel
theorem dX7_remember_15 : decode cX7_remember 15 = .ok (.invokevirtual 118, 3) := by decide +kernel
theorem dX7_remember_18 : decode cX7_remember 18 = .ok (.return_, 1) := by decide +kernel
theorem dX7_drawOfHundred_0 : decode cX7_drawOfHundred 0 = .ok (.aload_n 0, 1) := by decide +kernel
theorem dX7_drawOfHundred_1 : decode cX7_drawOfHundred 1 = .ok (.getfield 77, 3) := by decide +kernel
theorem dX7_drawOfHundred_4 : decode cX7_drawOfHundred 4 = .ok (.i2l, 1) := by decide +kernel
theorem dX7_drawOfHundred_5 : decode cX7_drawOfHundred 5 = .ok (.ldc2_w 273, 3) := by decide +kernel
theorem dX7_drawOfHundred_8 : decode cX7_drawOfHundred 8 = .ok (.lmul, 1) := by decide +kernel
theorem dX7_drawOfHundred_9 : decode cX7_drawOfHundred 9 = .ok (.ldc2_w 275, 3) := by decide +kernel
theorem dX7_drawOfHundred_12 : decode cX7_drawOfHundred 12 = .ok (.ladd, 1) := by decide +kernel
theorem dX7_drawOfHundred_13 : decode cX7_drawOfHundred 13 = .ok (.lstore_n 1, 1) := by decide +kernel
theorem dX7_drawOfHundred_14 : decode cX7_drawOfHundred 14 = .ok (.aload_n 0, 1) := by decide +kernel
theorem dX7_drawOfHundred_15 : decode cX7_drawOfHundred 15 = .ok (.lload_n 1, 1) := by decide +kernel
theorem dX7_drawOfHundred_16 : decode cX7_drawOfHundred 16 = .ok (.ldc2_w 277, 3) := by decide +kernel
theorem dX7_drawOfHundred_19 : decode cX7_drawOfHundred 19 = .ok (.land, 1) := by decide +kernel
theorem dX7_drawOfHundred_20 : decode cX7_drawOfHundred 20 = .ok (.l2i, 1) := by decide +kernel
theorem dX7_drawOfHundred_21 : decode cX7_drawOfHundred 21 = .ok (.putfield 77, 3) := by decide +kernel
theorem dX7_drawOfHundred_24 : decode cX7_drawOfHundred 24 = .ok (.aload_n 0, 1) := by decide +kernel
theorem dX7_drawOfHundred_25 : decode cX7_drawOfHundred 25 = .ok (.getfield 77, 3) := by decide +kernel
theorem dX7_drawOfHundred_28 : decode cX7_drawOfHundred 28 = .ok (.ldc_w 279, 3) := by decide +kernel
theorem dX7_drawOfHundred_31 : decode cX7_drawOfHundred 31 = .ok (.idiv, 1) := by decide +kernel
theorem dX7_drawOfHundred_32 : decode cX7_drawOfHundred 32 = .ok (.bipush 100, 2) := by decide +kernel
theorem dX7_drawOfHundred_34 : decode cX7_drawOfHundred 34 = .ok (.irem, 1) := by decide +kernel
theorem dX7_drawOfHundred_35 : decode cX7_drawOfHundred 35 = .ok (.ireturn, 1) := by decide +kernel
theorem dX7_imageOf_0 : decode cX7_imageOf 0 = .ok (.iload_n 1, 1) := by decide +kernel
theorem dX7_imageOf_1 : decode cX7_imageOf 1 = .ok (.ifCond .ne 8, 3) := by decide +kernel
theorem dX7_imageOf_4 : decode cX7_imageOf 4 = .ok (.aload_n 0, 1) := by decide +kernel
theorem dX7_imageOf_5 : decode cX7_imageOf 5 = .ok (.getfield 51, 3) := by decide +kernel
theorem dX7_imageOf_8 : decode cX7_imageOf 8 = .ok (.areturn, 1) := by decide +kernel
theorem dX7_imageOf_9 : decode cX7_imageOf 9 = .ok (.iload_n 1, 1) := by decide +kernel
theorem dX7_imageOf_10 : decode cX7_imageOf 10 = .ok (.iconst 1, 1) := by decide +kernel
theorem dX7_imageOf_11 : decode cX7_imageOf 11 = .ok (.if_icmp .ne 10, 3) := by decide +kernel
theorem dX7_imageOf_14 : decode cX7_imageOf 14 = .ok (.aload_n 0, 1) := by decide +kernel
theorem dX7_imageOf_15 : decode cX7_imageOf 15 = .ok (.getfield 55, 3) := by decide +kernel
theorem dX7_imageOf_18 : decode cX7_imageOf 18 = .ok (.goto 4, 3) := by decide +kernel
theorem dX7_imageOf_21 : decode cX7_imageOf 21 = .ok (.aconst_null, 1) := by decide +kernel
theorem dX7_imageOf_22 : decode cX7_imageOf 22 = .ok (.areturn, 1) := by decide +kernel
theorem dX7_hasYet_0 : decode cX7_hasYet 0 = .ok (.aload_n 0, 1) := by decide +kernel
theorem dX7_hasYet_1 : decode cX7_hasYet 1 = .ok (.getfield 30, 3) := by decide +kernel
theorem dX7_hasYet_4 : decode cX7_hasYet 4 = .ok (.getfield 137, 3) := by decide +kernel
theorem dX7_hasYet_7 : decode cX7_hasYet 7 = .ok (.iload_n 1, 1) := by decide +kernel
theorem dX7_hasYet_8 : decode cX7_hasYet 8 = .ok (.iconst 0, 1) := by decide +kernel
theorem dX7_hasYet_9 : decode cX7_hasYet 9 = .ok (.invokevirtual 127, 3) := by decide +kernel
theorem dX7_hasYet_12 : decode cX7_hasYet 12 = .ok (.aload_n 0, 1) := by decide +kernel
theorem dX7_hasYet_13 : decode cX7_hasYet 13 = .ok (.getfield 37, 3) := by decide +kernel
theorem dX7_hasYet_16 : decode cX7_hasYet 16 = .ok (.iload_n 1, 1) := by decide +kernel
theorem dX7_hasYet_17 : decode cX7_hasYet 17 = .ok (.invokevirtual 280, 3) := by decide +kernel
theorem dX7_hasYet_20 : decode cX7_hasYet 20 = .ok (.isub, 1) := by decide +kernel
theorem dX7_hasYet_21 : decode cX7_hasYet 21 = .ok (.ireturn, 1) := by decide +kernel
theorem dX7_cheapestLender_0 : decode cX7_cheapestLender 0 = .ok (.iconst (-1), 1) := by decide +kernel
theorem dX7_cheapestLender_1 : decode cX7_cheapestLender 1 = .ok (.istore_n 2, 1) := by decide +kernel
theorem dX7_cheapestLender_2 : decode cX7_cheapestLender 2 = .ok (.iconst 0, 1) := by decide +kernel
theorem dX7_cheapestLender_3 : decode cX7_cheapestLender 3 = .ok (.istore_n 3, 1) := by decide +kernel
theorem dX7_cheapestLender_4 : decode cX7_cheapestLender 4 = .ok (.iload_n 3, 1) := by decide +kernel
theorem dX7_cheapestLender_5 : decode cX7_cheapestLender 5 = .ok (.aload_n 0, 1) := by decide +kernel
theorem dX7_cheapestLender_6 : decode cX7_cheapestLender 6 = .ok (.getfield 30, 3) := by decide +kernel
theorem dX7_cheapestLender_9 : decode cX7_cheapestLender 9 = .ok (.getfield 137, 3) := by decide +kernel
theorem dX7_cheapestLender_12 : decode cX7_cheapestLender 12 = .ok (.invokevirtual 90, 3) := by decide +kernel
theorem dX7_cheapestLender_15 : decode cX7_cheapestLender 15 = .ok (.if_icmp .ge 64, 3) := by decide +kernel
theorem dX7_cheapestLender_18 : decode cX7_cheapestLender 18 = .ok (.iload_n 2, 1) := by decide +kernel
theorem dX7_cheapestLender_19 : decode cX7_cheapestLender 19 = .ok (.iconst (-1), 1) := by decide +kernel
theorem dX7_cheapestLender_20 : decode cX7_cheapestLender 20 = .ok (.if_icmp .eq 30, 3) := by decide +kernel
theorem dX7_cheapestLender_23 : decode cX7_cheapestLender 23 = .ok (.aload_n 0, 1) := by decide +kernel
theorem dX7_cheapestLender_24 : decode cX7_cheapestLender 24 = .ok (.getfield 30, 3) := by decide +kernel
theorem dX7_cheapestLender_27 : decode cX7_cheapestLender 27 = .ok (.getfield 137, 3) := by decide +kernel
theorem dX7_cheapestLender_30 : decode cX7_cheapestLender 30 = .ok (.iload_n 3, 1) := by decide +kernel
theorem dX7_cheapestLender_31 : decode cX7_cheapestLender 31 = .ok (.iconst 1, 1) := by decide +kernel
theorem dX7_cheapestLender_32 : decode cX7_cheapestLender 32 = .ok (.invokevirtual 127, 3) := by decide +kernel
theorem dX7_cheapestLender_35 : decode cX7_cheapestLender 35 = .ok (.aload_n 0, 1) := by decide +kernel
theorem dX7_cheapestLender_36 : decode cX7_cheapestLender 36 = .ok (.getfield 30, 3) := by decide +kernel
theorem dX7_cheapestLender_39 : decode cX7_cheapestLender 39 = .ok (.getfield 137, 3) := by decide +kernel
theorem dX7_cheapestLender_42 : decode cX7_cheapestLender 42 = .ok (.iload_n 2, 1) := by decide +kernel
theorem dX7_cheapestLender_43 : decode cX7_cheapestLender 43 = .ok (.iconst 1, 1) := by decide +kernel
theorem dX7_cheapestLender_44 : decode cX7_cheapestLender 44 = .ok (.invokevirtual 127, 3) := by decide +kernel
theorem dX7_cheapestLender_47 : decode cX7_cheapestLender 47 = .ok (.if_icmp .ge 7, 3) := by decide +kernel
theorem dX7_cheapestLender_50 : decode cX7_cheapestLender 50 = .ok (.iconst 1, 1) := by decide +kernel
theorem dX7_cheapestLender_51 : decode cX7_cheapestLender 51 = .ok (.goto 4, 3) := by decide +kernel
theorem dX7_cheapestLender_54 : decode cX7_cheapestLender 54 = .ok (.iconst 0, 1) := by decide +kernel
theorem dX7_cheapestLender_55 : decode cX7_cheapestLender 55 = .ok (.istore 4, 2) := by decide +kernel
theorem dX7_cheapestLender_57 : decode cX7_cheapestLender 57 = .ok (.iload 4, 2) := by decide +kernel
theorem dX7_cheapestLender_59 : decode cX7_cheapestLender 59 = .ok (.ifCond .eq 14, 3) := by decide +kernel
theorem dX7_cheapestLender_62 : decode cX7_cheapestLender 62 = .ok (.aload_n 0, 1) := by decide +kernel
theorem dX7_cheapestLender_63 : decode cX7_cheapestLender 63 = .ok (.iload_n 3, 1) := by decide +kernel
theorem dX7_cheapestLender_64 : decode cX7_cheapestLender 64 = .ok (.invokevirtual 174, 3) := by decide +kernel
theorem dX7_cheapestLender_67 : decode cX7_cheapestLender 67 = .ok (.iload_n 1, 1) := by decide +kernel
theorem dX7_cheapestLender_68 : decode cX7_cheapestLender 68 = .ok (.if_icmp .lt 5, 3) := by decide +kernel
theorem dX7_cheapestLender_71 : decode cX7_cheapestLender 71 = .ok (.iload_n 3, 1) := by decide +kernel
theorem dX7_cheapestLender_72 : decode cX7_cheapestLender 72 = .ok (.istore_n 2, 1) := by decide +kernel
theorem dX7_cheapestLender_73 : decode cX7_cheapestLender 73 = .ok (.iinc 3 1, 3) := by decide +kernel
theorem dX7_cheapestLender_76 : decode cX7_cheapestLender 76 = .ok (.goto (-72), 3) := by decide +kernel
theorem dX7_cheapestLender_79 : decode cX7_cheapestLender 79 = .ok (.iload_n 2, 1) := by decide +kernel
theorem dX7_cheapestLender_80 : decode cX7_cheapestLender 80 = .ok (.ireturn, 1) := by decide +kernel
theorem dX7_rateFor_0 : decode cX7_rateFor 0 = .ok (.iload_n 0, 1) := by decide +kernel
theorem dX7_rateFor_1 : decode cX7_rateFor 1 = .ok (.ifCond .gt 5, 3) := by decide +kernel
theorem dX7_rateFor_4 : decode cX7_rateFor 4 = .ok (.iconst (-1), 1) := by decide +kernel
theorem dX7_rateFor_5 : decode cX7_rateFor 5 = .ok (.ireturn, 1) := by decide +kernel
theorem dX7_rateFor_6 : decode cX7_rateFor 6 = .ok (.ldc_w 283, 3) := by decide +kernel
theorem dX7_rateFor_9 : decode cX7_rateFor 9 = .ok (.iload_n 0, 1) := by decide +kernel
theorem dX7_rateFor_10 : decode cX7_rateFor 10 = .ok (.iadd, 1) := by decide +kernel
theorem dX7_rateFor_11 : decode cX7_rateFor 11 = .ok (.iconst 1, 1) := by decide +kernel
theorem dX7_rateFor_12 : decode cX7_rateFor 12 = .ok (.isub, 1) := by decide +kernel
theorem dX7_rateFor_13 : decode cX7_rateFor 13 = .ok (.iload_n 0, 1) := by decide +kernel
theorem dX7_rateFor_14 : decode cX7_rateFor 14 = .ok (.idiv, 1) := by decide +kernel
theorem dX7_rateFor_15 : decode cX7_rateFor 15 = .ok (.istore_n 1, 1) := by decide +kernel
theorem dX7_rateFor_16 : decode cX7_rateFor 16 = .ok (.iload_n 1, 1) := by decide +kernel
theorem dX7_rateFor_17 : decode cX7_rateFor 17 = .ok (.bipush 100, 2) := by decide +kernel
theorem dX7_rateFor_19 : decode cX7_rateFor 19 = .ok (.isub, 1) := by decide +kernel
theorem dX7_rateFor_20 : decode cX7_rateFor 20 = .ok (.sipush 999, 3) := by decide +kernel
theorem dX7_rateFor_23 : decode cX7_rateFor 23 = .ok (.if_icmp .gt 10, 3) := by decide +kernel
theorem dX7_rateFor_26 : decode cX7_rateFor 26 = .ok (.iload_n 1, 1) := by decide +kernel
theorem dX7_rateFor_27 : decode cX7_rateFor 27 = .ok (.bipush 100, 2) := by decide +kernel
theorem dX7_rateFor_29 : decode cX7_rateFor 29 = .ok (.isub, 1) := by decide +kernel
theorem dX7_rateFor_30 : decode cX7_rateFor 30 = .ok (.goto 4, 3) := by decide +kernel
theorem dX7_rateFor_33 : decode cX7_rateFor 33 = .ok (.iconst (-1), 1) := by decide +kernel
theorem dX7_rateFor_34 : decode cX7_rateFor 34 = .ok (.ireturn, 1) := by decide +kernel
theorem dX7_shipMoney_0 : decode cX7_shipMoney 0 = .ok (.aload_n 0, 1) := by decide +kernel
theorem dX7_shipMoney_1 : decode cX7_shipMoney 1 = .ok (.getfield 30, 3) := by decide +kernel
theorem dX7_shipMoney_4 : decode cX7_shipMoney 4 = .ok (.getfield 124, 3) := by decide +kernel
theorem dX7_shipMoney_7 : decode cX7_shipMoney 7 = .ok (.iconst 0, 1) := by decide +kernel
theorem dX7_shipMoney_8 : decode cX7_shipMoney 8 = .ok (.iconst 0, 1) := by decide +kernel
theorem dX7_shipMoney_9 : decode cX7_shipMoney 9 = .ok (.invokevirtual 127, 3) := by decide +kernel
theorem dX7_shipMoney_12 : decode cX7_shipMoney 12 = .ok (.aload_n 0, 1) := by decide +kernel
theorem dX7_shipMoney_13 : decode cX7_shipMoney 13 = .ok (.getfield 37, 3) := by decide +kernel
theorem dX7_shipMoney_16 : decode cX7_shipMoney 16 = .ok (.getfield 134, 3) := by decide +kernel
theorem dX7_shipMoney_19 : decode cX7_shipMoney 19 = .ok (.iadd, 1) := by decide +kernel
theorem dX7_shipMoney_20 : decode cX7_shipMoney 20 = .ok (.iconst 0, 1) := by decide +kernel
theorem dX7_shipMoney_21 : decode cX7_shipMoney 21 = .ok (.iload_n 1, 1) := by decide +kernel
theorem dX7_shipMoney_22 : decode cX7_shipMoney 22 = .ok (.aload_n 0, 1) := by decide +kernel
theorem dX7_shipMoney_23 : decode cX7_shipMoney 23 = .ok (.getfield 37, 3) := by decide +kernel
theorem dX7_shipMoney_26 : decode cX7_shipMoney 26 = .ok (.iconst 0, 1) := by decide +kernel
theorem dX7_shipMoney_27 : decode cX7_shipMoney 27 = .ok (.iconst 1, 1) := by decide +kernel
theorem dX7_shipMoney_28 : decode cX7_shipMoney 28 = .ok (.invokevirtual 149, 3) := by decide +kernel
theorem dX7_shipMoney_31 : decode cX7_shipMoney 31 = .ok (.isub, 1) := by decide +kernel
theorem dX7_shipMoney_32 : decode cX7_shipMoney 32 = .ok (.invokestatic 158, 3) := by decide +kernel
theorem dX7_shipMoney_35 : decode cX7_shipMoney 35 = .ok (.iadd, 1) := by decide +kernel
theorem dX7_shipMoney_36 : decode cX7_shipMoney 36 = .ok (.ireturn, 1) := by decide +kernel
theorem dX7_paidNow_0 : decode cX7_paidNow 0 = .ok (.aload_n 0, 1) := by decide +kernel
theorem dX7_paidNow_1 : decode cX7_paidNow 1 = .ok (.getfield 30, 3) := by decide +kernel
theorem dX7_paidNow_4 : decode cX7_paidNow 4 = .ok (.getfield 124, 3) := by decide +kernel
theorem dX7_paidNow_7 : decode cX7_paidNow 7 = .ok (.iconst 0, 1) := by decide +kernel
theorem dX7_paidNow_8 : decode cX7_paidNow 8 = .ok (.iconst 1, 1) := by decide +kernel
theorem dX7_paidNow_9 : decode cX7_paidNow 9 = .ok (.invokevirtual 127, 3) := by decide +kernel
theorem dX7_paidNow_12 : decode cX7_paidNow 12 = .ok (.istore_n 2, 1) := by decide +kernel
theorem dX7_paidNow_13 : decode cX7_paidNow 13 = .ok (.aload_n 0, 1) := by decide +kernel
theorem dX7_paidNow_14 : decode cX7_paidNow 14 = .ok (.getfield 37, 3) := by decide +kernel
theorem dX7_paidNow_17 : decode cX7_paidNow 17 = .ok (.iload_n 1, 1) := by decide +kernel
theorem dX7_paidNow_18 : decode cX7_paidNow 18 = .ok (.aload_n 0, 1) := by decide +kernel
theorem dX7_paidNow_19 : decode cX7_paidNow 19 = .ok (.iload_n 2, 1) := by decide +kernel
theorem dX7_paidNow_20 : decode cX7_paidNow 20 = .ok (.invokevirtual 225, 3) := by decide +kernel
theorem dX7_paidNow_23 : decode cX7_paidNow 23 = .ok (.iload_n 2, 1) := by decide +kernel
theorem dX7_paidNow_24 : decode cX7_paidNow 24 = .ok (.invokevirtual 228, 3) := by decide +kernel
theorem dX7_paidNow_27 : decode cX7_paidNow 27 = .ok (.ireturn, 1) := by decide +kernel
theorem dX7_leftBesidesPurse_0 : decode cX7_leftBesidesPurse 0 = .ok (.aload_n 0, 1) := by decide +kernel
theorem dX7_leftBesidesPurse_1 : decode cX7_leftBesidesPurse 1 = .ok (.aload_n 0, 1) := by decide +kernel
theorem dX7_leftBesidesPurse_2 : decode cX7_leftBesidesPurse 2 = .ok (.getfield 30, 3) := by decide +kernel
theorem dX7_leftBesidesPurse_5 : decode cX7_leftBesidesPurse 5 = .ok (.getfield 124, 3) := by decide +kernel
theorem dX7_leftBesidesPurse_8 : decode cX7_leftBesidesPurse 8 = .ok (.iconst 0, 1) := by decide +kernel
theorem dX7_leftBesidesPurse_9 : decode cX7_leftBesidesPurse 9 = .ok (.iconst 1, 1) := by decide +kernel
theorem dX7_leftBesidesPurse_10 : decode cX7_leftBesidesPurse 10 = .ok (.invokevirtual 127, 3) := by decide +kernel
theorem dX7_leftBesidesPurse_13 : decode cX7_leftBesidesPurse 13 = .ok (.invokevirtual 225, 3) := by decide +kernel
theorem dX7_leftBesidesPurse_16 : decode cX7_leftBesidesPurse 16 = .ok (.aload_n 0, 1) := by decide +kernel
theorem dX7_leftBesidesPurse_17 : decode cX7_leftBesidesPurse 17 = .ok (.getfield 37, 3) := by decide +kernel
theorem dX7_leftBesidesPurse_20 : decode cX7_leftBesidesPurse 20 = .ok (.getfield 134, 3) := by decide +kernel
theorem dX7_leftBesidesPurse_23 : decode cX7_leftBesidesPurse 23 = .ok (.isub, 1) := by decide +kernel
theorem dX7_leftBesidesPurse_24 : decode cX7_leftBesidesPurse 24 = .ok (.aload_n 0, 1) := by decide +kernel
theorem dX7_leftBesidesPurse_25 : decode cX7_leftBesidesPurse 25 = .ok (.getfield 37, 3) := by decide +kernel
theorem dX7_leftBesidesPurse_28 : decode cX7_leftBesidesPurse 28 = .ok (.iconst 0, 1) := by decide +kernel
theorem dX7_leftBesidesPurse_29 : decode cX7_leftBesidesPurse 29 = .ok (.iconst 0, 1) := by decide +kernel
theorem dX7_leftBesidesPurse_30 : decode cX7_leftBesidesPurse 30 = .ok (.invokevirtual 149, 3) := by decide +kernel
theorem dX7_leftBesidesPurse_33 : decode cX7_leftBesidesPurse 33 = .ok (.isub, 1) := by decide +kernel
theorem dX7_leftBesidesPurse_34 : decode cX7_leftBesidesPurse 34 = .ok (.ireturn, 1) := by decide +kernel
theorem dX7_canBeSo_0 : decode cX7_canBeSo 0 = .ok (.aload_n 0, 1) := by decide +kernel
theorem dX7_canBeSo_1 : decode cX7_canBeSo 1 = .ok (.getfield 67, 3) := by decide +kernel
theorem dX7_canBeSo_4 : decode cX7_canBeSo 4 = .ok (.iload_n 1, 1) := by decide +kernel
theorem dX7_canBeSo_5 : decode cX7_canBeSo 5 = .ok (.iconst 0, 1) := by decide +kernel
theorem dX7_canBeSo_6 : decode cX7_canBeSo 6 = .ok (.invokevirtual 127, 3) := by decide +kernel
theorem dX7_canBeSo_9 : decode cX7_canBeSo 9 = .ok (.istore_n 2, 1) := by decide +kernel
theorem dX7_canBeSo_10 : decode cX7_canBeSo 10 = .ok (.aload_n 0, 1) := by decide +kernel
theorem dX7_canBeSo_11 : decode cX7_canBeSo 11 = .ok (.getfield 67, 3) := by decide +kernel
theorem dX7_canBeSo_14 : decode cX7_canBeSo 14 = .ok (.iload_n 1, 1) := by decide +kernel
theorem dX7_canBeSo_15 : decode cX7_canBeSo 15 = .ok (.iconst 1, 1) := by decide +kernel
theorem dX7_canBeSo_16 : decode cX7_canBeSo 16 = .ok (.invokevirtual 127, 3) := by decide +kernel
theorem dX7_canBeSo_19 : decode cX7_canBeSo 19 = .ok (.istore_n 3, 1) := by decide +kernel
theorem dX7_canBeSo_20 : decode cX7_canBeSo 20 = .ok (.aload_n 0, 1) := by decide +kernel
theorem dX7_canBeSo_21 : decode cX7_canBeSo 21 = .ok (.getfield 37, 3) := by decide +kernel
theorem dX7_canBeSo_24 : decode cX7_canBeSo 24 = .ok (.getfield 140, 3) := by decide +kernel
theorem dX7_canBeSo_27 : decode cX7_canBeSo 27 = .ok (.iload_n 2, 1) := by decide +kernel
theorem dX7_canBeSo_28 : decode cX7_canBeSo 28 = .ok (.invokevirtual 166, 3) := by decide +kernel
theorem dX7_canBeSo_31 : decode cX7_canBeSo 31 = .ok (.ifCond .ne 5, 3) := by decide +kernel
theorem dX7_canBeSo_34 : decode cX7_canBeSo 34 = .ok (.iconst 0, 1) := by decide +kernel
theorem dX7_canBeSo_35 : decode cX7_canBeSo 35 = .ok (.ireturn, 1) := by decide +kernel
theorem dX7_canBeSo_36 : decode cX7_canBeSo 36 = .ok (.aload_n 0, 1) := by decide +kernel
theorem dX7_canBeSo_37 : decode cX7_canBeSo 37 = .ok (.getfield 30, 3) := by decide +kernel
theorem dX7_canBeSo_40 : decode cX7_canBeSo 40 = .ok (.getfield 124, 3) := by decide +kernel
theorem dX7_canBeSo_43 : decode cX7_canBeSo 43 = .ok (.iconst 0, 1) := by decide +kernel
theorem dX7_canBeSo_44 : decode cX7_canBeSo 44 = .ok (.iconst 1, 1) := by decide +kernel
theorem dX7_canBeSo_45 : decode cX7_canBeSo 45 = .ok (.invokevirtual 127, 3) := by decide +kernel
theorem dX7_canBeSo_48 : decode cX7_canBeSo 48 = .ok (.istore 4, 2) := by decide +kernel
theorem dX7_canBeSo_50 : decode cX7_canBeSo 50 = .ok (.aload_n 0, 1) := by decide +kernel
theorem dX7_canBeSo_51 : decode cX7_canBeSo 51 = .ok (.iload_n 1, 1) := by decide +kernel
theorem dX7_canBeSo_52 : decode cX7_canBeSo 52 = .ok (.invokevirtual 284, 3) := by decide +kernel
theorem dX7_canBeSo_55 : decode cX7_canBeSo 55 = .ok (.ifCond .eq 26, 3) := by decide +kernel
theorem dX7_canBeSo_58 : decode cX7_canBeSo 58 = .ok (.aload_n 0, 1) := by decide +kernel
theorem dX7_canBeSo_59 : decode cX7_canBeSo 59 = .ok (.getfield 37, 3) := by decide +kernel
theorem dX7_canBeSo_62 : decode cX7_canBeSo 62 = .ok (.iload_n 2, 1) := by decide +kernel
theorem dX7_canBeSo_63 : decode cX7_canBeSo 63 = .ok (.iconst 0, 1) := by decide +kernel
theorem dX7_canBeSo_64 : decode cX7_canBeSo 64 = .ok (.iload 4, 2) := by decide +kernel
theorem dX7_canBeSo_66 : decode cX7_canBeSo 66 = .ok (.invokevirtual 228, 3) := by decide +kernel
theorem dX7_canBeSo_69 : decode cX7_canBeSo 69 = .ok (.iload_n 3, 1) := by decide +kernel
theorem dX7_canBeSo_70 : decode cX7_canBeSo 70 = .ok (.if_icmp .ne 7, 3) := by decide +kernel
theorem dX7_canBeSo_73 : decode cX7_canBeSo 73 = .ok (.iconst 1, 1) := by decide +kernel
theorem dX7_canBeSo_74 : decode cX7_canBeSo 74 = .ok (.goto 28, 3) := by decide +kernel
theorem dX7_canBeSo_77 : decode cX7_canBeSo 77 = .ok (.iconst 0, 1) := by decide +kernel
theorem dX7_canBeSo_78 : decode cX7_canBeSo 78 = .ok (.goto 24, 3) := by decide +kernel
theorem dX7_canBeSo_81 : decode cX7_canBeSo 81 = .ok (.iload_n 3, 1) := by decide +kernel
theorem dX7_canBeSo_82 : decode cX7_canBeSo 82 = .ok (.aload_n 0, 1) := by decide +kernel
theorem dX7_canBeSo_83 : decode cX7_canBeSo 83 = .ok (.getfield 37, 3) := by decide +kernel
theorem dX7_canBeSo_86 : decode cX7_canBeSo 86 = .ok (.getfield 140, 3) := by decide +kernel
theorem dX7_canBeSo_89 : decode cX7_canBeSo 89 = .ok (.iload_n 2, 1) := by decide +kernel
theorem dX7_canBeSo_90 : decode cX7_canBeSo 90 = .ok (.iconst 3, 1) := by decide +kernel
theorem dX7_canBeSo_91 : decode cX7_canBeSo 91 = .ok (.invokevirtual 127, 3) := by decide +kernel
theorem dX7_canBeSo_94 : decode cX7_canBeSo 94 = .ok (.if_icmp .gt 7, 3) := by decide +kernel
theorem dX7_canBeSo_97 : decode cX7_canBeSo 97 = .ok (.iconst 1, 1) := by decide +kernel
theorem dX7_canBeSo_98 : decode cX7_canBeSo 98 = .ok (.goto 4, 3) := by decide +kernel
theorem dX7_canBeSo_101 : decode cX7_canBeSo 101 = .ok (.iconst 0, 1) := by decide +kernel
theorem dX7_canBeSo_102 : decode cX7_canBeSo 102 = .ok (.ireturn, 1) := by decide +kernel
theorem dX7_isFreightTold_0 : decode cX7_isFreightTold 0 = .ok (.aload_n 0, 1) := by decide +kernel
theorem dX7_isFreightTold_1 : decode cX7_isFreightTold 1 = .ok (.getfield 37, 3) := by decide +kernel
theorem dX7_isFreightTold_4 : decode cX7_isFreightTold 4 = .ok (.getfield 140, 3) := by decide +kernel
theorem dX7_isFreightTold_7 : decode cX7_isFreightTold 7 = .ok (.aload_n 0, 1) := by decide +kernel
theorem dX7_isFreightTold_8 : decode cX7_isFreightTold 8 = .ok (.getfield 67, 3) := by decide +kernel
theorem dX7_isFreightTold_11 : decode cX7_isFreightTold 11 = .ok (.iload_n 1, 1) := by decide +kernel
theorem dX7_isFreightTold_12 : decode cX7_isFreightTold 12 = .ok (.iconst 0, 1) := by decide +kernel
theorem dX7_isFreightTold_13 : decode cX7_isFreightTold 13 = .ok (.invokevirtual 127, 3) := by decide +kernel
theorem dX7_isFreightTold_16 : decode cX7_isFreightTold 16 = .ok (.iconst 2, 1) := by decide +kernel
theorem dX7_isFreightTold_17 : decode cX7_isFreightTold 17 = .ok (.invokevirtual 127, 3) := by decide +kernel
theorem dX7_isFreightTold_20 : decode cX7_isFreightTold 20 = .ok (.iconst 1, 1) := by decide +kernel
theorem dX7_isFreightTold_21 : decode cX7_isFreightTold 21 = .ok (.if_icmp .ne 7, 3) := by decide +kernel
theorem dX7_isFreightTold_24 : decode cX7_isFreightTold 24 = .ok (.iconst 1, 1) := by decide +kernel
theorem dX7_isFreightTold_25 : decode cX7_isFreightTold 25 = .ok (.goto 4, 3) := by decide +kernel
theorem dX7_isFreightTold_28 : decode cX7_isFreightTold 28 = .ok (.iconst 0, 1) := by decide +kernel
theorem dX7_isFreightTold_29 : decode cX7_isFreightTold 29 = .ok (.ireturn, 1) := by decide +kernel
theorem dX7_leastWorthFor_0 : decode cX7_leastWorthFor 0 = .ok (.aload_n 0, 1) := by decide +kernel
theorem dX7_leastWorthFor_1 : decode cX7_leastWorthFor 1 = .ok (.iload_n 1, 1) := by decide +kernel
theorem dX7_leastWorthFor_2 : decode cX7_leastWorthFor 2 = .ok (.invokevirtual 287, 3) := by decide +kernel
theorem dX7_leastWorthFor_5 : decode cX7_leastWorthFor 5 = .ok (.ifCond .ne 7, 3) := by decide +kernel
theorem dX7_leastWorthFor_8 : decode cX7_leastWorthFor 8 = .ok (.sipush 1000, 3) := by decide +kernel
theorem dX7_leastWorthFor_11 : decode cX7_leastWorthFor 11 = .ok (.ireturn, 1) := by decide +kernel
theorem dX7_leastWorthFor_12 : decode cX7_leastWorthFor 12 = .ok (.aload_n 0, 1) := by decide +kernel
theorem dX7_leastWorthFor_13 : decode cX7_leastWorthFor 13 = .ok (.iload_n 1, 1) := by decide +kernel
theorem dX7_leastWorthFor_14 : decode cX7_leastWorthFor 14 = .ok (.invokevirtual 284, 3) := by decide +kernel
theorem dX7_leastWorthFor_17 : decode cX7_leastWorthFor 17 = .ok (.ifCond .ne 15, 3) := by decide +kernel
theorem dX7_leastWorthFor_20 : decode cX7_leastWorthFor 20 = .ok (.aload_n 0, 1) := by decide +kernel
theorem dX7_leastWorthFor_21 : decode cX7_leastWorthFor 21 = .ok (.getfield 67, 3) := by decide +kernel
theorem dX7_leastWorthFor_24 : decode cX7_leastWorthFor 24 = .ok (.iload_n 1, 1) := by decide +kernel
theorem dX7_leastWorthFor_25 : decode cX7_leastWorthFor 25 = .ok (.iconst 1, 1) := by decide +kernel
theorem dX7_leastWorthFor_26 : decode cX7_leastWorthFor 26 = .ok (.invokevirtual 127, 3) := by decide +kernel
theorem dX7_leastWorthFor_29 : decode cX7_leastWorthFor 29 = .ok (.ifCond .ne 7, 3) := by decide +kernel
theorem dX7_leastWorthFor_32 : decode cX7_leastWorthFor 32 = .ok (.iconst 0, 1) := by decide +kernel
theorem dX7_leastWorthFor_33 : decode cX7_leastWorthFor 33 = .ok (.goto 8, 3) := by decide +kernel
theorem dX7_leastWorthFor_36 : decode cX7_leastWorthFor 36 = .ok (.aload_n 0, 1) := by decide +kernel
theorem dX7_leastWorthFor_37 : decode cX7_leastWorthFor 37 = .ok (.iload_n 1, 1) := by decide +kernel
theorem dX7_leastWorthFor_38 : decode cX7_leastWorthFor 38 = .ok (.invokevirtual 290, 3) := by decide +kernel
theorem dX7_leastWorthFor_41 : decode cX7_leastWorthFor 41 = .ok (.ireturn, 1) := by decide +kernel
theorem dX7_greatestWorthFor_0 : decode cX7_greatestWorthFor 0 = .ok (.aload_n 0, 1) := by decide +kernel
theorem dX7_greatestWorthFor_1 : decode cX7_greatestWorthFor 1 = .ok (.iload_n 1, 1) := by decide +kernel
theorem dX7_greatestWorthFor_2 : decode cX7_greatestWorthFor 2 = .ok (.invokevirtual 287, 3) := by decide +kernel
theorem dX7_greatestWorthFor_5 : decode cX7_greatestWorthFor 5 = .ok (.ifCond .ne 5, 3) := by decide +kernel
theorem dX7_greatestWorthFor_8 : decode cX7_greatestWorthFor 8 = .ok (.iconst (-1), 1) := by decide +kernel
theorem dX7_greatestWorthFor_9 : decode cX7_greatestWorthFor 9 = .ok (.ireturn, 1) := by decide +kernel
theorem dX7_greatestWorthFor_10 : decode cX7_greatestWorthFor 10 = .ok (.aload_n 0, 1) := by decide +kernel
theorem dX7_greatestWorthFor_11 : decode cX7_greatestWorthFor 11 = .ok (.getfield 67, 3) := by decide +kernel
theorem dX7_greatestWorthFor_14 : decode cX7_greatestWorthFor 14 = .ok (.iload_n 1, 1) := by decide +kernel
theorem dX7_greatestWorthFor_15 : decode cX7_greatestWorthFor 15 = .ok (.iconst 1, 1) := by decide +kernel
theorem dX7_greatestWorthFor_16 : decode cX7_greatestWorthFor 16 = .ok (.invokevirtual 127, 3) := by decide +kernel
theorem dX7_greatestWorthFor_19 : decode cX7_greatestWorthFor 19 = .ok (.aload_n 0, 1) := by decide +kernel
theorem dX7_greatestWorthFor_20 : decode cX7_greatestWorthFor 20 = .ok (.getfield 37, 3) := by decide +kernel
theorem dX7_greatestWorthFor_23 : decode cX7_greatestWorthFor 23 = .ok (.getfield 140, 3) := by decide +kernel
theorem dX7_greatestWorthFor_26 : decode cX7_greatestWorthFor 26 = .ok (.aload_n 0, 1) := by decide +kernel
theorem dX7_greatestWorthFor_27 : decode cX7_greatestWorthFor 27 = .ok (.getfield 67, 3) := by decide +kernel
theorem dX7_greatestWorthFor_30 : decode cX7_greatestWorthFor 30 = .ok (.iload_n 1, 1) := by decide +kernel
theorem dX7_greatestWorthFor_31 : decode cX7_greatestWorthFor 31 = .ok (.iconst 0, 1) := by decide +kernel
theorem dX7_greatestWorthFor_32 : decode cX7_greatestWorthFor 32 = .ok (.invokevirtual 127, 3) := by decide +kernel
theorem dX7_greatestWorthFor_35 : decode cX7_greatestWorthFor 35 = .ok (.iconst 3, 1) := by decide +kernel
theorem dX7_greatestWorthFor_36 : decode cX7_greatestWorthFor 36 = .ok (.invokevirtual 127, 3) := by decide +kernel
theorem dX7_greatestWorthFor_39 : decode cX7_greatestWorthFor 39 = .ok (.if_icmp .ne 7, 3) := by decide +kernel
theorem dX7_greatestWorthFor_42 : decode cX7_greatestWorthFor 42 = .ok (.iconst 1, 1) := by decide +kernel
theorem dX7_greatestWorthFor_43 : decode cX7_greatestWorthFor 43 = .ok (.goto 4, 3) := by decide +kernel
theorem dX7_greatestWorthFor_46 : decode cX7_greatestWorthFor 46 = .ok (.iconst 0, 1) := by decide +kernel
theorem dX7_greatestWorthFor_47 : decode cX7_greatestWorthFor 47 = .ok (.istore_n 2, 1) := by decide +kernel
theorem dX7_greatestWorthFor_48 : decode cX7_greatestWorthFor 48 = .ok (.aload_n 0, 1) := by decide +kernel
theorem dX7_greatestWorthFor_49 : decode cX7_greatestWorthFor 49 = .ok (.iload_n 1, 1) := by decide +kernel
theorem dX7_greatestWorthFor_50 : decode cX7_greatestWorthFor 50 = .ok (.invokevirtual 284, 3) := by decide +kernel
theorem dX7_greatestWorthFor_53 : decode cX7_greatestWorthFor 53 = .ok (.ifCond .ne 7, 3) := by decide +kernel
theorem dX7_greatestWorthFor_56 : decode cX7_greatestWorthFor 56 = .ok (.iload_n 2, 1) := by decide +kernel
theorem dX7_greatestWorthFor_57 : decode cX7_greatestWorthFor 57 = .ok (.ifCond .eq 9, 3) := by decide +kernel
theorem dX7_greatestWorthFor_60 : decode cX7_greatestWorthFor 60 = .ok (.sipush 999, 3) := by decide +kernel
theorem dX7_greatestWorthFor_63 : decode cX7_greatestWorthFor 63 = .ok (.goto 8, 3) := by decide +kernel
theorem dX7_greatestWorthFor_66 : decode cX7_greatestWorthFor 66 = .ok (.aload_n 0, 1) := by decide +kernel
theorem dX7_greatestWorthFor_67 : decode cX7_greatestWorthFor 67 = .ok (.iload_n 1, 1) := by decide +kernel
theorem dX7_greatestWorthFor_68 : decode cX7_greatestWorthFor 68 = .ok (.invokevirtual 290, 3) := by decide +kernel
theorem dX7_greatestWorthFor_71 : decode cX7_greatestWorthFor 71 = .ok (.ireturn, 1) := by decide +kernel
theorem dX7_worthJustFor_0 : decode cX7_worthJustFor 0 = .ok (.aload_n 0, 1) := by decide +kernel
theorem dX7_worthJustFor_1 : decode cX7_worthJustFor 1 = .ok (.aload_n 0, 1) := by decide +kernel
theorem dX7_worthJustFor_2 : decode cX7_worthJustFor 2 = .ok (.getfield 30, 3) := by decide +kernel
theorem dX7_worthJustFor_5 : decode cX7_worthJustFor 5 = .ok (.getfield 124, 3) := by decide +kernel
theorem dX7_worthJustFor_8 : decode cX7_worthJustFor 8 = .ok (.iconst 0, 1) := by decide +kernel
theorem dX7_worthJustFor_9 : decode cX7_worthJustFor 9 = .ok (.iconst 1, 1) := by decide +kernel
theorem dX7_worthJustFor_10 : decode cX7_worthJustFor 10 = .ok (.invokevirtual 127, 3) := by decide +kernel
theorem dX7_worthJustFor_13 : decode cX7_worthJustFor 13 = .ok (.invokevirtual 225, 3) := by decide +kernel
theorem dX7_worthJustFor_16 : decode cX7_worthJustFor 16 = .ok (.aload_n 0, 1) := by decide +kernel
theorem dX7_worthJustFor_17 : decode cX7_worthJustFor 17 = .ok (.getfield 30, 3) := by decide +kernel
theorem dX7_worthJustFor_20 : decode cX7_worthJustFor 20 = .ok (.getfield 124, 3) := by decide +kernel
theorem dX7_worthJustFor_23 : decode cX7_worthJustFor 23 = .ok (.iconst 0, 1) := by decide +kernel
theorem dX7_worthJustFor_24 : decode cX7_worthJustFor 24 = .ok (.iconst 0, 1) := by decide +kernel
theorem dX7_worthJustFor_25 : decode cX7_worthJustFor 25 = .ok (.invokevirtual 127, 3) := by decide +kernel
theorem dX7_worthJustFor_28 : decode cX7_worthJustFor 28 = .ok (.isub, 1) := by decide +kernel
theorem dX7_worthJustFor_29 : decode cX7_worthJustFor 29 = .ok (.istore_n 2, 1) := by decide +kernel
theorem dX7_worthJustFor_30 : decode cX7_worthJustFor 30 = .ok (.aload_n 0, 1) := by decide +kernel
theorem dX7_worthJustFor_31 : decode cX7_worthJustFor 31 = .ok (.getfield 37, 3) := by decide +kernel
theorem dX7_worthJustFor_34 : decode cX7_worthJustFor 34 = .ok (.aload_n 0, 1) := by decide +kernel
theorem dX7_worthJustFor_35 : decode cX7_worthJustFor 35 = .ok (.getfield 67, 3) := by decide +kernel
theorem dX7_worthJustFor_38 : decode cX7_worthJustFor 38 = .ok (.iload_n 1, 1) := by decide +kernel
theorem dX7_worthJustFor_39 : decode cX7_worthJustFor 39 = .ok (.iconst 0, 1) := by decide +kernel
theorem dX7_worthJustFor_40 : decode cX7_worthJustFor 40 = .ok (.invokevirtual 127, 3) := by decide +kernel
theorem dX7_worthJustFor_43 : decode cX7_worthJustFor 43 = .ok (.iconst 1, 1) := by decide +kernel
theorem dX7_worthJustFor_44 : decode cX7_worthJustFor 44 = .ok (.iadd, 1) := by decide +kernel
theorem dX7_worthJustFor_45 : decode cX7_worthJustFor 45 = .ok (.iconst 0, 1) := by decide +kernel
theorem dX7_worthJustFor_46 : decode cX7_worthJustFor 46 = .ok (.invokevirtual 149, 3) := by decide +kernel
theorem dX7_worthJustFor_49 : decode cX7_worthJustFor 49 = .ok (.istore_n 3, 1) := by decide +kernel
theorem dX7_worthJustFor_50 : decode cX7_worthJustFor 50 = .ok (.aload_n 0, 1) := by decide +kernel
theorem dX7_worthJustFor_51 : decode cX7_worthJustFor 51 = .ok (.getfield 67, 3) := by decide +kernel
theorem dX7_worthJustFor_54 : decode cX7_worthJustFor 54 = .ok (.iload_n 1, 1) := by decide +kernel
theorem dX7_worthJustFor_55 : decode cX7_worthJustFor 55 = .ok (.iconst 1, 1) := by decide +kernel
theorem dX7_worthJustFor_56 : decode cX7_worthJustFor 56 = .ok (.invokevirtual 127, 3) := by decide +kernel
theorem dX7_worthJustFor_59 : decode cX7_worthJustFor 59 = .ok (.iload_n 3, 1) := by decide +kernel
theorem dX7_worthJustFor_60 : decode cX7_worthJustFor 60 = .ok (.iadd, 1) := by decide +kernel
theorem dX7_worthJustFor_61 : decode cX7_worthJustFor 61 = .ok (.iload_n 2, 1) := by decide +kernel
theorem dX7_worthJustFor_62 : decode cX7_worthJustFor 62 = .ok (.isub, 1) := by decide +kernel
theorem dX7_worthJustFor_63 : decode cX7_worthJustFor 63 = .ok (.ireturn, 1) := by decide +kernel
end
section
theorem dX8_init_0 : decode cX8_init 0 = .ok (.aload_n 0, 1) := by decide +kernel
theorem dX8_init_1 : decode cX8_init 1 = .ok (.invokespecial 1, 3) := by decide +kernel
theorem dX8_init_4 : decode cX8_init 4 = .ok (.aload_n 0, 1) := by decide +kernel
theorem dX8_init_5 : decode cX8_init 5 = .ok (.sipush 1008, 3) := by decide +kernel
theorem dX8_init_8 : decode cX8_init 8 = .ok (.newarray .int, 2) := by decide +kernel
theorem dX8_init_10 : decode cX8_init 10 = .ok (.putfield 7, 3) := by decide +kernel
theorem dX8_init_13 : decode cX8_init 13 = .ok (.aload_n 0, 1) := by decide +kernel
theorem dX8_init_14 : decode cX8_init 14 = .ok (.iconst 2, 1) := by decide +kernel
theorem dX8_init_15 : decode cX8_init 15 = .ok (.newarray .boolean, 2) := by decide +kernel
theorem dX8_init_17 : decode cX8_init 17 = .ok (.putfield 13, 3) := by decide +kernel
theorem dX8_init_20 : decode cX8_init 20 = .ok (.aload_n 0, 1) := by decide +kernel
theorem dX8_init_21 : decode cX8_init 21 = .ok (.bipush 7, 2) := by decide +kernel
theorem dX8_init_23 : decode cX8_init 23 = .ok (.newarray .int, 2) := by decide +kernel
theorem dX8_init_25 : decode cX8_init 25 = .ok (.putfield 17, 3) := by decide +kernel
theorem dX8_init_28 : decode cX8_init 28 = .ok (.aload_n 0, 1) := by decide +kernel
theorem dX8_init_29 : decode cX8_init 29 = .ok (.bipush 7, 2) := by decide +kernel
theorem dX8_init_31 : decode cX8_init 31 = .ok (.newarray .int, 2) := by decide +kernel
theorem dX8_init_33 : decode cX8_init 33 = .ok (.putfield 20, 3) := by decide +kernel
theorem dX8_init_36 : decode cX8_init 36 = .ok (.aload_n 0, 1) := by decide +kernel
theorem dX8_init_37 : decode cX8_init 37 = .ok (.bipush 7, 2) := by decide +kernel
theorem dX8_init_39 : decode cX8_init 39 = .ok (.newarray .int, 2) := by decide +kernel
theorem dX8_init_41 : decode cX8_init 41 = .ok (.putfield 23, 3) := by decide +kernel
theorem dX8_init_44 : decode cX8_init 44 = .ok (.aload_n 0, 1) := by decide +kernel
theorem dX8_init_45 : decode cX8_init 45 = .ok (.iconst 5, 1) := by decide +kernel
theorem dX8_init_46 : decode cX8_init 46 = .ok (.newarray .int, 2) := by decide +kernel
theorem dX8_init_48 : decode cX8_init 48 = .ok (.putfield 26, 3) := by decide +kernel
theorem dX8_init_51 : decode cX8_init 51 = .ok (.aload_n 0, 1) := by decide +kernel
theorem dX8_init_52 : decode cX8_init 52 = .ok (.iconst 5, 1) := by decide +kernel
theorem dX8_init_53 : decode cX8_init 53 = .ok (.newarray .int, 2) := by decide +kernel
theorem dX8_init_55 : decode cX8_init 55 = .ok (.putfield 29, 3) := by decide +kernel
theorem dX8_init_58 : decode cX8_init 58 = .ok (.aload_n 0, 1) := by decide +kernel
theorem dX8_init_59 : decode cX8_init 59 = .ok (.sipush 220, 3) := by decide +kernel
theorem dX8_init_62 : decode cX8_init 62 = .ok (.newarray .int, 2) := by decide +kernel
theorem dX8_init_64 : decode cX8_init 64 = .ok (.putfield 32, 3) := by decide +kernel
theorem dX8_init_67 : decode cX8_init 67 = .ok (.aload_n 0, 1) := by decide +kernel
theorem dX8_init_68 : decode cX8_init 68 = .ok (.iconst (-1), 1) := by decide +kernel
theorem dX8_init_69 : decode cX8_init 69 = .ok (.putfield 35, 3) := by decide +kernel
theorem dX8_init_72 : decode cX8_init 72 = .ok (.aload_n 0, 1) := by decide +kernel
theorem dX8_init_73 : decode cX8_init 73 = .ok (.iconst 4, 1) := by decide +kernel
theorem dX8_init_74 : decode cX8_init 74 = .ok (.newarray .int, 2) := by decide +kernel
theorem dX8_init_76 : decode cX8_init 76 = .ok (.putfield 39, 3) := by decide +kernel
theorem dX8_init_79 : decode cX8_init 79 = .ok (.aload_n 0, 1) := by decide +kernel
theorem dX8_init_80 : decode cX8_init 80 = .ok (.bipush 21, 2) := by decide +kernel
theorem dX8_init_82 : decode cX8_init 82 = .ok (.newarray .int, 2) := by decide +kernel
theorem dX8_init_84 : decode cX8_init 84 = .ok (.putfield 42, 3) := by decide +kernel
theorem dX8_init_87 : decode cX8_init 87 = .ok (.aload_n 0, 1) := by decide +kernel
theorem dX8_init_88 : decode cX8_init 88 = .ok (.bipush 10, 2) := by decide +kernel
theorem dX8_init_90 : decode cX8_init 90 = .ok (.newarray .int, 2) := by decide +kernel
theorem dX8_init_92 : decode cX8_init 92 = .ok (.putfield 45, 3) := by decide +kernel
theorem dX8_init_95 : decode cX8_init 95 = .ok (.aload_n 0, 1) := by decide +kernel
theorem dX8_init_96 : decode cX8_init 96 = .ok (.bipush 9, 2) := by decide +kernel
theorem dX8_init_98 : decode cX8_init 98 = .ok (.newarray .int, 2) := by decide +kernel
theorem dX8_init_100 : decode cX8_init 100 = .ok (.putfield 48, 3) := by decide +kernel
theorem dX8_init_103 : decode cX8_init 103 = .ok (.aload_n 0, 1) := by decide +kernel
theorem dX8_init_104 : decode cX8_init 104 = .ok (.bipush 9, 2) := by decide +kernel
theorem dX8_init_106 : decode cX8_init 106 = .ok (.newarray .int, 2) := by decide +kernel
theorem dX8_init_108 : decode cX8_init 108 = .ok (.putfield 51, 3) := by decide +kernel
theorem dX8_init_111 : decode cX8_init 111 = .ok (.aload_n 0, 1) := by decide +kernel
theorem dX8_init_112 : decode cX8_init 112 = .ok (.bipush 6, 2) := by decide +kernel
theorem dX8_init_114 : decode cX8_init 114 = .ok (.newarray .int, 2) := by decide +kernel
theorem dX8_init_116 : decode cX8_init 116 = .ok (.putfield 54, 3) := by decide +kernel
theorem dX8_init_119 : decode cX8_init 119 = .ok (.aload_n 0, 1) := by decide +kernel
theorem dX8_init_120 : decode cX8_init 120 = .ok (.bipush 6, 2) := by decide +kernel
theorem dX8_init_122 : decode cX8_init 122 = .ok (.newarray .int, 2) := by decide +kernel
theorem dX8_init_124 : decode cX8_init 124 = .ok (.putfield 57, 3) := by decide +kernel
theorem dX8_init_127 : decode cX8_init 127 = .ok (.aload_n 0, 1) := by decide +kernel
theorem dX8_init_128 : decode cX8_init 128 = .ok (.bipush 15, 2) := by decide +kernel
theorem dX8_init_130 : decode cX8_init 130 = .ok (.newarray .int, 2) := by decide +kernel
theorem dX8_init_132 : decode cX8_init 132 = .ok (.putfield 60, 3) := by decide +kernel
theorem dX8_init_135 : decode cX8_init 135 = .ok (.aload_n 0, 1) := by decide +kernel
theorem dX8_init_136 : decode cX8_init 136 = .ok (.iconst 0, 1) := by decide +kernel
theorem dX8_init_137 : decode cX8_init 137 = .ok (.putfield 63, 3) := by decide +kernel
theorem dX8_init_140 : decode cX8_init 140 = .ok (.return_, 1) := by decide +kernel
theorem dX8_in_0 : decode cX8_in 0 = .ok (.lload_n 0, 1) := by decide +kernel
theorem dX8_in_1 : decode cX8_in 1 = .ok (.lload_n 2, 1) := by decide +kernel
theorem dX8_in_2 : decode cX8_in 2 = .ok (.lcmp, 1) := by decide +kernel
theorem dX8_in_3 : decode cX8_in 3 = .ok (.ifCond .lt 14, 3) := by decide +kernel
theorem dX8_in_6 : decode cX8_in 6 = .ok (.lload_n 0, 1) := by decide +kernel
theorem dX8_in_7 : decode cX8_in 7 = .ok (.lload 4, 2) := by decide +kernel
theorem dX8_in_9 : decode cX8_in 9 = .ok (.lcmp, 1) := by decide +kernel
theorem dX8_in_10 : decode cX8_in 10 = .ok (.ifCond .gt 7, 3) := by decide +kernel
theorem dX8_in_13 : decode cX8_in 13 = .ok (.iconst 1, 1) := by decide +kernel
theorem dX8_in_14 : decode cX8_in 14 = .ok (.goto 4, 3) := by decide +kernel
theorem dX8_in_17 : decode cX8_in 17 = .ok (.iconst 0, 1) := by decide +kernel
theorem dX8_in_18 : decode cX8_in 18 = .ok (.ireturn, 1) := by decide +kernel
theorem dX8_copy_0 : decode cX8_copy 0 = .ok (.iconst 0, 1) := by decide +kernel
theorem dX8_copy_1 : decode cX8_copy 1 = .ok (.istore_n 3, 1) := by decide +kernel
theorem dX8_copy_2 : decode cX8_copy 2 = .ok (.iload_n 3, 1) := by decide +kernel
theorem dX8_copy_3 : decode cX8_copy 3 = .ok (.bipush 42, 2) := by decide +kernel
theorem dX8_copy_5 : decode cX8_copy 5 = .ok (.if_icmp .ge 25, 3) := by decide +kernel
theorem dX8_copy_8 : decode cX8_copy 8 = .ok (.aload_n 0, 1) := by decide +kernel
theorem dX8_copy_9 : decode cX8_copy 9 = .ok (.getfield 7, 3) := by decide +kernel
theorem dX8_copy_12 : decode cX8_copy 12 = .ok (.iload_n 2, 1) := by decide +kernel
theorem dX8_copy_13 : decode cX8_copy 13 = .ok (.iload_n 3, 1) := by decide +kernel
theorem dX8_copy_14 : decode cX8_copy 14 = .ok (.iadd, 1) := by decide +kernel
theorem dX8_copy_15 : decode cX8_copy 15 = .ok (.aload_n 0, 1) := by decide +kernel
theorem dX8_copy_16 : decode cX8_copy 16 = .ok (.getfield 7, 3) := by decide +kernel
theorem dX8_copy_19 : decode cX8_copy 19 = .ok (.iload_n 1, 1) := by decide +kernel
theorem dX8_copy_20 : decode cX8_copy 20 = .ok (.iload_n 3, 1) := by decide +kernel
theorem dX8_copy_21 : decode cX8_copy 21 = .ok (.iadd, 1) := by decide +kernel
theorem dX8_copy_22 : decode cX8_copy 22 = .ok (.iaload, 1) := by decide +kernel
theorem dX8_copy_23 : decode cX8_copy 23 = .ok (.iastore, 1) := by decide +kernel
theorem dX8_copy_24 : decode cX8_copy 24 = .ok (.iinc 3 1, 3) := by decide +kernel
theorem dX8_copy_27 : decode cX8_copy 27 = .ok (.goto (-25), 3) := by decide +kernel
theorem dX8_copy_30 : decode cX8_copy 30 = .ok (.return_, 1) := by decide +kernel
theorem dX8_isLeg_0 : decode cX8_isLeg 0 = .ok (.iload_n 1, 1) := by decide +kernel
theorem dX8_isLeg_1 : decode cX8_isLeg 1 = .ok (.i2l, 1) := by decide +kernel
theorem dX8_isLeg_2 : decode cX8_isLeg 2 = .ok (.lconst 0, 1) := by decide +kernel
theorem dX8_isLeg_3 : decode cX8_isLeg 3 = .ok (.aload_n 0, 1) := by decide +kernel
theorem dX8_isLeg_4 : decode cX8_isLeg 4 = .ok (.getfield 67, 3) := by decide +kernel
theorem dX8_isLeg_7 : decode cX8_isLeg 7 = .ok (.iconst 1, 1) := by decide +kernel
theorem dX8_isLeg_8 : decode cX8_isLeg 8 = .ok (.isub, 1) := by decide +kernel
theorem dX8_isLeg_9 : decode cX8_isLeg 9 = .ok (.i2l, 1) := by decide +kernel
theorem dX8_isLeg_10 : decode cX8_isLeg 10 = .ok (.invokestatic 70, 3) := by decide +kernel
theorem dX8_isLeg_13 : decode cX8_isLeg 13 = .ok (.ireturn, 1) := by decide +kernel
theorem dX8_isLender_0 : decode cX8_isLender 0 = .ok (.iload_n 1, 1) := by decide +kernel
theorem dX8_isLender_1 : decode cX8_isLender 1 = .ok (.i2l, 1) := by decide +kernel
theorem dX8_isLender_2 : decode cX8_isLender 2 = .ok (.lconst 0, 1) := by decide +kernel
theorem dX8_isLender_3 : decode cX8_isLender 3 = .ok (.aload_n 0, 1) := by decide +kernel
theorem dX8_isLender_4 : decode cX8_isLender 4 = .ok (.getfield 74, 3) := by decide +kernel
theorem dX8_isLender_7 : decode cX8_isLender 7 = .ok (.iconst 1, 1) := by decide +kernel
theorem dX8_isLender_8 : decode cX8_isLender 8 = .ok (.isub, 1) := by decide +kernel
theorem dX8_isLender_9 : decode cX8_isLender 9 = .ok (.i2l, 1) := by decide +kernel
theorem dX8_isLender_10 : decode cX8_isLender 10 = .ok (.invokestatic 70, 3) := by decide +kernel
theorem dX8_isLender_13 : decode cX8_isLender 13 = .ok (.ireturn, 1) := by decide +kernel
theorem dX8_isLoan_0 : decode cX8_isLoan 0 = .ok (.iload_n 1, 1) := by decide +kernel
theorem dX8_isLoan_1 : decode cX8_isLoan 1 = .ok (.i2l, 1) := by decide +kernel
theorem dX8_isLoan_2 : decode cX8_isLoan 2 = .ok (.lconst 0, 1) := by decide +kernel
theorem dX8_isLoan_3 : decode cX8_isLoan 3 = .ok (.aload_n 0, 1) := by decide +kernel
theorem dX8_isLoan_4 : decode cX8_isLoan 4 = .ok (.getfield 7, 3) := by decide +kernel
theorem dX8_isLoan_7 : decode cX8_isLoan 7 = .ok (.iconst 4, 1) := by decide +kernel
theorem dX8_isLoan_8 : decode cX8_isLoan 8 = .ok (.iaload, 1) := by decide +kernel
theorem dX8_isLoan_9 : decode cX8_isLoan 9 = .ok (.iconst 1, 1) := by decide +kernel
theorem dX8_isLoan_10 : decode cX8_isLoan 10 = .ok (.isub, 1) := by decide +kernel
theorem dX8_isLoan_11 : decode cX8_isLoan 11 = .ok (.i2l, 1) := by decide +kernel
theorem dX8_isLoan_12 : decode cX8_isLoan 12 = .ok (.invokestatic 70, 3) := by decide +kernel
theorem dX8_isLoan_15 : decode cX8_isLoan 15 = .ok (.ireturn, 1) := by decide +kernel
theorem dX8_feed_0 : decode cX8_feed 0 = .ok (.iload_n 1, 1) := by decide +kernel
theorem dX8_feed_1 : decode cX8_feed 1 = .ok (.i2l, 1) := by decide +kernel
theorem dX8_feed_2 : decode cX8_feed 2 = .ok (.lconst 0, 1) := by decide +kernel
theorem dX8_feed_3 : decode cX8_feed 3 = .ok (.ldc2_w 77, 3) := by decide +kernel
theorem dX8_feed_6 : decode cX8_feed 6 = .ok (.invokestatic 70, 3) := by decide +kernel
theorem dX8_feed_9 : decode cX8_feed 9 = .ok (.ifCond .ne 6, 3) := by decide +kernel
theorem dX8_feed_12 : decode cX8_feed 12 = .ok (.ldc 79, 2) := by decide +kernel
theorem dX8_feed_14 : decode cX8_feed 14 = .ok (.ireturn, 1) := by decide +kernel
theorem dX8_feed_15 : decode cX8_feed 15 = .ok (.aload_n 0, 1) := by decide +kernel
theorem dX8_feed_16 : decode cX8_feed 16 = .ok (.getfield 80, 3) := by decide +kernel
theorem dX8_feed_19 : decode cX8_feed 19 = .ok (.sipush 220, 3) := by decide +kernel
theorem dX8_feed_22 : decode cX8_feed 22 = .ok (.if_icmp .ne 6, 3) := by decide +kernel
theorem dX8_feed_25 : decode cX8_feed 25 = .ok (.ldc 83, 2) := by decide +kernel
theorem dX8_feed_27 : decode cX8_feed 27 = .ok (.ireturn, 1) := by decide +kernel
theorem dX8_feed_28 : decode cX8_feed 28 = .ok (.aload_n 0, 1) := by decide +kernel
theorem dX8_feed_29 : decode cX8_feed 29 = .ok (.getfield 32, 3) := by decide +kernel
theorem dX8_feed_32 : decode cX8_feed 32 = .ok (.aload_n 0, 1) := by decide +kernel
theorem dX8_feed_33 : decode cX8_feed 33 = .ok (.getfield 80, 3) := by decide +kernel
theorem dX8_feed_36 : decode cX8_feed 36 = .ok (.iload_n 1, 1) := by decide +kernel
theorem dX8_feed_37 : decode cX8_feed 37 = .ok (.iastore, 1) := by decide +kernel
theorem dX8_feed_38 : decode cX8_feed 38 = .ok (.aload_n 0, 1) := by decide +kernel
theorem dX8_feed_39 : decode cX8_feed 39 = .ok (.dup, 1) := by decide +kernel
theorem dX8_feed_40 : decode cX8_feed 40 = .ok (.getfield 80, 3) := by decide +kernel
theorem dX8_feed_43 : decode cX8_feed 43 = .ok (.iconst 1, 1) := by decide +kernel
theorem dX8_feed_44 : decode cX8_feed 44 = .ok (.iadd, 1) := by decide +kernel
theorem dX8_feed_45 : decode cX8_feed 45 = .ok (.putfield 80, 3) := by decide +kernel
theorem dX8_feed_48 : decode cX8_feed 48 = .ok (.aload_n 0, 1) := by decide +kernel
theorem dX8_feed_49 : decode cX8_feed 49 = .ok (.getfield 80, 3) := by decide +kernel
theorem dX8_feed_52 : decode cX8_feed 52 = .ok (.ireturn, 1) := by decide +kernel
theorem dX8_letterAt_0 : decode cX8_letterAt 0 = .ok (.iload_n 1, 1) := by decide +kernel
theorem dX8_letterAt_1 : decode cX8_letterAt 1 = .ok (.aload_n 0, 1) := by decide +kernel
theorem dX8_letterAt_2 : decode cX8_letterAt 2 = .ok (.getfield 80, 3) := by decide +kernel
theorem dX8_letterAt_5 : decode cX8_letterAt 5 = .ok (.if_icmp .ge 12, 3) := by decide +kernel
theorem dX8_letterAt_8 : decode cX8_letterAt 8 = .ok (.aload_n 0, 1) := by decide +kernel
theorem dX8_letterAt_9 : decode cX8_letterAt 9 = .ok (.getfield 32, 3) := by decide +kernel
theorem dX8_letterAt_12 : decode cX8_letterAt 12 = .ok (.iload_n 1, 1) := by decide +kernel
theorem dX8_letterAt_13 : decode cX8_letterAt 13 = .ok (.iaload, 1) := by decide +kernel
theorem dX8_letterAt_14 : decode cX8_letterAt 14 = .ok (.goto 4, 3) := by decide +kernel
theorem dX8_letterAt_17 : decode cX8_letterAt 17 = .ok (.iconst (-1), 1) := by decide +kernel
theorem dX8_letterAt_18 : decode cX8_letterAt 18 = .ok (.ireturn, 1) := by decide +kernel
theorem dX8_here_0 : decode cX8_here 0 = .ok (.aload_n 0, 1) := by decide +kernel
theorem dX8_here_1 : decode cX8_here 1 = .ok (.aload_n 0, 1) := by decide +kernel
theorem dX8_here_2 : decode cX8_here 2 = .ok (.getfield 84, 3) := by decide +kernel
theorem dX8_here_5 : decode cX8_here 5 = .ok (.invokevirtual 87, 3) := by decide +kernel
theorem dX8_here_8 : decode cX8_here 8 = .ok (.bipush 32, 2) := by decide +kernel
theorem dX8_here_10 : decode cX8_here 10 = .ok (.if_icmp .ne 16, 3) := by decide +kernel
theorem dX8_here_13 : decode cX8_here 13 = .ok (.aload_n 0, 1) := by decide +kernel
theorem dX8_here_14 : decode cX8_here 14 = .ok (.dup, 1) := by decide +kernel
theorem dX8_here_15 : decode cX8_here 15 = .ok (.getfield 84, 3) := by decide +kernel
theorem dX8_here_18 : decode cX8_here 18 = .ok (.iconst 1, 1) := by decide +kernel
theorem dX8_here_19 : decode cX8_here 19 = .ok (.iadd, 1) := by decide +kernel
theorem dX8_here_20 : decode cX8_here 20 = .ok (.putfield 84, 3) := by decide +kernel
theorem dX8_here_23 : decode cX8_here 23 = .ok (.goto (-23), 3) := by decide +kernel
theorem dX8_here_26 : decode cX8_here 26 = .ok (.aload_n 0, 1) := by decide +kernel
theorem dX8_here_27 : decode cX8_here 27 = .ok (.aload_n 0, 1) := by decide +kernel
theorem dX8_here_28 : decode cX8_here 28 = .ok (.getfield 84, 3) := by decide +kernel
theorem dX8_here_31 : decode cX8_here 31 = .ok (.putfield 91, 3) := by decide +kernel
theorem dX8_here_34 : decode cX8_here 34 = .ok (.aload_n 0, 1) := by decide +kernel
theorem dX8_here_35 : decode cX8_here 35 = .ok (.aload_n 0, 1) := by decide +kernel
theorem dX8_here_36 : decode cX8_here 36 = .ok (.getfield 84, 3) := by decide +kernel
theorem dX8_here_39 : decode cX8_here 39 = .ok (.invokevirtual 87, 3) := by decide +kernel
theorem dX8_here_42 : decode cX8_here 42 = .ok (.ireturn, 1) := by decide +kernel
theorem dX8_fails_0 : decode cX8_fails 0 = .ok (.aload_n 0, 1) := by decide +kernel
theorem dX8_fails_1 : decode cX8_fails 1 = .ok (.iload_n 1, 1) := by decide +kernel
theorem dX8_fails_2 : decode cX8_fails 2 = .ok (.putfield 94, 3) := by decide +kernel
theorem dX8_fails_5 : decode cX8_fails 5 = .ok (.aload_n 0, 1) := by decide +kernel
theorem dX8_fails_6 : decode cX8_fails 6 = .ok (.iload_n 2, 1) := by decide +kernel
theorem dX8_fails_7 : decode cX8_fails 7 = .ok (.putfield 35, 3) := by decide +kernel
theorem dX8_fails_10 : decode cX8_fails 10 = .ok (.iconst 0, 1) := by decide +kernel
theorem dX8_fails_11 : decode cX8_fails 11 = .ok (.ireturn, 1) := by decide +kernel
theorem dX8_takes_0 : decode cX8_takes 0 = .ok (.aload_n 0, 1) := by decide +kernel
theorem dX8_takes_1 : decode cX8_takes 1 = .ok (.invokevirtual 97, 3) := by decide +kernel
theorem dX8_takes_4 : decode cX8_takes 4 = .ok (.iload_n 1, 1) := by decide +kernel
theorem dX8_takes_5 : decode cX8_takes 5 = .ok (.if_icmp .eq 13, 3) := by decide +kernel
theorem dX8_takes_8 : decode cX8_takes 8 = .ok (.aload_n 0, 1) := by decide +kernel
theorem dX8_takes_9 : decode cX8_takes 9 = .ok (.iconst 1, 1) := by decide +kernel
theorem dX8_takes_10 : decode cX8_takes 10 = .ok (.aload_n 0, 1) := by decide +kernel
theorem dX8_takes_11 : decode cX8_takes 11 = .ok (.getfield 91, 3) := by decide +kernel
theorem dX8_takes_14 : decode cX8_takes 14 = .ok (.invokevirtual 101, 3) := by decide +kernel
theorem dX8_takes_17 : decode cX8_takes 17 = .ok (.ireturn, 1) := by decide +kernel
theorem dX8_takes_18 : decode cX8_takes 18 = .ok (.aload_n 0, 1) := by decide +kernel
theorem dX8_takes_19 : decode cX8_takes 19 = .ok (.dup, 1) := by decide +kernel
theorem dX8_takes_20 : decode cX8_takes 20 = .ok (.getfield 84, 3) := by decide +kernel
theorem dX8_takes_23 : decode cX8_takes 23 = .ok (.iconst 1, 1) := by decide +kernel
theorem dX8_takes_24 : decode cX8_takes 24 = .ok (.iadd, 1) := by decide +kernel
theorem dX8_takes_25 : decode cX8_takes 25 = .ok (.putfield 84, 3) := by decide +kernel
theorem dX8_takes_28 : decode cX8_takes 28 = .ok (.iconst 1, 1) := by decide +kernel
theorem dX8_takes_29 : decode cX8_takes 29 = .ok (.ireturn, 1) := by decide +kernel
theorem dX8_takesNumber_0 : decode cX8_takesNumber 0 = .ok (.aload_n 0, 1) := by decide +kernel
theorem dX8_takesNumber_1 : decode cX8_takesNumber 1 = .ok (.invokevirtual 97, 3) := by decide +kernel
theorem dX8_takesNumber_4 : decode cX8_takesNumber 4 = .ok (.i2l, 1) := by decide +kernel
theorem dX8_takesNumber_5 : decode cX8_takesNumber 5 = .ok (.ldc2_w 105, 3) := by decide +kernel
theorem dX8_takesNumber_8 : decode cX8_takesNumber 8 = .ok (.ldc2_w 107, 3) := by decide +kernel
theorem dX8_takesNumber_11 : decode cX8_takesNumber 11 = .ok (.invokestatic 70, 3) := by decide +kernel
theorem dX8_takesNumber_14 : decode cX8_takesNumber 14 = .ok (.ifCond .ne 13, 3) := by decide +kernel
theorem dX8_takesNumber_17 : decode cX8_takesNumber 17 = .ok (.aload_n 0, 1) := by decide +kernel
theorem dX8_takesNumber_18 : decode cX8_takesNumber 18 = .ok (.iconst 1, 1) := by decide +kernel
theorem dX8_takesNumber_19 : decode cX8_takesNumber 19 = .ok (.aload_n 0, 1) := by decide +kernel
theorem dX8_takesNumber_20 : decode cX8_takesNumber 20 = .ok (.getfield 91, 3) := by decide +kernel
theorem dX8_takesNumber_23 : decode cX8_takesNumber 23 = .ok (.invokevirtual 101, 3) := by decide +kernel
theorem dX8_takesNumber_26 : decode cX8_takesNumber 26 = .ok (.ireturn, 1) := by decide +kernel
theorem dX8_takesNumber_27 : decode cX8_takesNumber 27 = .ok (.aload_n 0, 1) := by decide +kernel
theorem dX8_takesNumber_28 : decode cX8_takesNumber 28 = .ok (.iconst 0, 1) := by decide +kernel
theorem dX8_takesNumber_29 : decode cX8_takesNumber 29 = .ok (.putfield 109, 3) := by decide +kernel
theorem dX8_takesNumber_32 : decode cX8_takesNumber 32 = .ok (.aload_n 0, 1) := by decide +kernel
theorem dX8_takesNumber_33 : decode cX8_takesNumber 33 = .ok (.aload_n 0, 1) := by decide +kernel
theorem dX8_takesNumber_34 : decode cX8_takesNumber 34 = .ok (.getfield 84, 3) := by decide +kernel
theorem dX8_takesNumber_37 : decode cX8_takesNumber 37 = .ok (.invokevirtual 87, 3) := by decide +kernel
theorem dX8_takesNumber_40 : decode cX8_takesNumber 40 = .ok (.i2l, 1) := by decide +kernel
theorem dX8_takesNumber_41 : decode cX8_takesNumber 41 = .ok (.ldc2_w 105, 3) := by decide +kernel
theorem dX8_takesNumber_44 : decode cX8_takesNumber 44 = .ok (.ldc2_w 107, 3) := by decide +kernel
theorem dX8_takesNumber_47 : decode cX8_takesNumber 47 = .ok (.invokestatic 70, 3) := by decide +kernel
theorem dX8_takesNumber_50 : decode cX8_takesNumber 50 = .ok (.ifCond .eq 59, 3) := by decide +kernel
theorem dX8_takesNumber_53 : decode cX8_takesNumber 53 = .ok (.aload_n 0, 1) := by decide +kernel
theorem dX8_takesNumber_54 : decode cX8_takesNumber 54 = .ok (.aload_n 0, 1) := by decide +kernel
theorem dX8_takesNumber_55 : decode cX8_takesNumber 55 = .ok (.getfield 84, 3) := by decide +kernel
theorem dX8_takesNumber_58 : decode cX8_takesNumber 58 = .ok (.aload_n 0, 1) := by decide +kernel
theorem dX8_takesNumber_59 : decode cX8_takesNumber 59 = .ok (.getfield 91, 3) := by decide +kernel
theorem dX8_takesNumber_62 : decode cX8_takesNumber 62 = .ok (.isub, 1) := by decide +kernel
theorem dX8_takesNumber_63 : decode cX8_takesNumber 63 = .ok (.iconst 3, 1) := by decide +kernel
theorem dX8_takesNumber_64 : decode cX8_takesNumber 64 = .ok (.if_icmp .ge 25, 3) := by decide +kernel
theorem dX8_takesNumber_67 : decode cX8_takesNumber 67 = .ok (.bipush 10, 2) := by decide +kernel
theorem dX8_takesNumber_69 : decode cX8_takesNumber 69 = .ok (.aload_n 0, 1) := by decide +kernel
theorem dX8_takesNumber_70 : decode cX8_takesNumber 70 = .ok (.getfield 109, 3) := by decide +kernel
theorem dX8_takesNumber_73 : decode cX8_takesNumber 73 = .ok (.imul, 1) := by decide +kernel
theorem dX8_takesNumber_74 : decode cX8_takesNumber 74 = .ok (.aload_n 0, 1) := by decide +kernel
theorem dX8_takesNumber_75 : decode cX8_takesNumber 75 = .ok (.aload_n 0, 1) := by decide +kernel
theorem dX8_takesNumber_76 : decode cX8_takesNumber 76 = .ok (.getfield 84, 3) := by decide +kernel
theorem dX8_takesNumber_79 : decode cX8_takesNumber 79 = .ok (.invokevirtual 87, 3) := by decide +kernel
theorem dX8_takesNumber_82 : decode cX8_takesNumber 82 = .ok (.iadd, 1) := by decide +kernel
theorem dX8_takesNumber_83 : decode cX8_takesNumber 83 = .ok (.bipush 48, 2) := by decide +kernel
theorem dX8_takesNumber_85 : decode cX8_takesNumber 85 = .ok (.isub, 1) := by decide +kernel
theorem dX8_takesNumber_86 : decode cX8_takesNumber 86 = .ok (.goto 7, 3) := by decide +kernel
theorem dX8_takesNumber_89 : decode cX8_takesNumber 89 = .ok (.aload_n 0, 1) := by decide +kernel
theorem dX8_takesNumber_90 : decode cX8_takesNumber 90 = .ok (.getfield 109, 3) := by decide +kernel
theorem dX8_takesNumber_93 : decode cX8_takesNumber 93 = .ok (.putfield 109, 3) := by decide +kernel
theorem dX8_takesNumber_96 : decode cX8_takesNumber 96 = .ok (.aload_n 0, 1) := by decide +kernel
theorem dX8_takesNumber_97 : decode cX8_takesNumber 97 = .ok (.dup, 1) := by decide +kernel
theorem dX8_takesNumber_98 : decode cX8_takesNumber 98 = .ok (.getfield 84, 3) := by decide +kernel
theorem dX8_takesNumber_101 : decode cX8_takesNumber 101 = .ok (.iconst 1, 1) := by decide +kernel
theorem dX8_takesNumber_102 : decode cX8_takesNumber 102 = .ok (.iadd, 1) := by decide +kernel
theorem dX8_takesNumber_103 : decode cX8_takesNumber 103 = .ok (.putfield 84, 3) := by decide +kernel
theorem dX8_takesNumber_106 : decode cX8_takesNumber 106 = .ok (.goto (-74), 3) := by decide +kernel
theorem dX8_takesNumber_109 : decode cX8_takesNumber 109 = .ok (.aload_n 0, 1) := by decide +kernel
theorem dX8_takesNumber_110 : decode cX8_takesNumber 110 = .ok (.getfield 84, 3) := by decide +kernel
theorem dX8_takesNumber_113 : decode cX8_takesNumber 113 = .ok (.aload_n 0, 1) := by decide +kernel
theorem dX8_takesNumber_114 : decode cX8_takesNumber 114 = .ok (.getfield 91, 3) := by decide +kernel
theorem dX8_takesNumber_117 : decode cX8_takesNumber 117 = .ok (.isub, 1) := by decide +kernel
theorem dX8_takesNumber_118 : decode cX8_takesNumber 118 = .ok (.iconst 4, 1) := by decide +kernel
theorem dX8_takesNumber_119 : decode cX8_takesNumber 119 = .ok (.if_icmp .ge 18, 3) := by decide +kernel
theorem dX8_takesNumber_122 : decode cX8_takesNumber 122 = .ok (.aload_n 0, 1) := by decide +kernel
theorem dX8_takesNumber_123 : decode cX8_takesNumber 123 = .ok (.getfield 109, 3) := by decide +kernel
theorem dX8_takesNumber_126 : decode cX8_takesNumber 126 = .ok (.i2l, 1) := by decide +kernel
theorem dX8_takesNumber_127 : decode cX8_takesNumber 127 = .ok (.iload_n 1, 1) := by decide +kernel
theorem dX8_takesNumber_128 : decode cX8_takesNumber 128 = .ok (.i2l, 1) := by decide +kernel
theorem dX8_takesNumber_129 : decode cX8_takesNumber 129 = .ok (.iload_n 2, 1) := by decide +kernel
theorem dX8_takesNumber_130 : decode cX8_takesNumber 130 = .ok (.i2l, 1) := by decide +kernel
theorem dX8_takesNumber_131 : decode cX8_takesNumber 131 = .ok (.invokestatic 70, 3) := by decide +kernel
theorem dX8_takesNumber_134 : decode cX8_takesNumber 134 = .ok (.ifCond .ne 15, 3) := by decide +kernel
theorem dX8_takesNumber_137 : decode cX8_takesNumber 137 = .ok (.aload_n 0, 1) := by decide +kernel
theorem dX8_takesNumber_138 : decode cX8_takesNumber 138 = .ok (.iconst 2, 1) := by decide +kernel
theorem dX8_takesNumber_139 : decode cX8_takesNumber 139 = .ok (.aload_n 0, 1) := by decide +kernel
theorem dX8_takesNumber_140 : decode cX8_takesNumber 140 = .ok (.getfield 91, 3) := by decide +kernel
theorem dX8_takesNumber_143 : decode cX8_takesNumber 143 = .ok (.invokevirtual 101, 3) := by decide +kernel
theorem dX8_takesNumber_146 : decode cX8_takesNumber 146 = .ok (.ifCond .eq 7, 3) := by decide +kernel
theorem dX8_takesNumber_149 : decode cX8_takesNumber 149 = .ok (.iconst 1, 1) := by decide +kernel
theorem dX8_takesNumber_150 : decode cX8_takesNumber 150 = .ok (.goto 4, 3) := by decide +kernel
theorem dX8_takesNumber_153 : decode cX8_takesNumber 153 = .ok (.iconst 0, 1) := by decide +kernel
theorem dX8_takesNumber_154 : decode cX8_takesNumber 154 = .ok (.ireturn, 1) := by decide +kernel
theorem dX8_takesShip_0 : decode cX8_takesShip 0 = .ok (.aload_n 0, 1) := by decide +kernel
theorem dX8_takesShip_1 : decode cX8_takesShip 1 = .ok (.iconst 1, 1) := by decide +kernel
theorem dX8_takesShip_2 : decode cX8_takesShip 2 = .ok (.putfield 112, 3) := by decide +kernel
theorem dX8_takesShip_5 : decode cX8_takesShip 5 = .ok (.iconst 0, 1) := by decide +kernel
theorem dX8_takesShip_6 : decode cX8_takesShip 6 = .ok (.istore_n 1, 1) := by decide +kernel
theorem dX8_takesShip_7 : decode cX8_takesShip 7 = .ok (.iload_n 1, 1) := by decide +kernel
theorem dX8_takesShip_8 : decode cX8_takesShip 8 = .ok (.iconst 4, 1) := by decide +kernel
theorem dX8_takesShip_9 : decode cX8_takesShip 9 = .ok (.if_icmp .ge 50, 3) := by decide +kernel
theorem dX8_takesShip_12 : decode cX8_takesShip 12 = .ok (.aload_n 0, 1) := by decide +kernel
theorem dX8_takesShip_13 : decode cX8_takesShip 13 = .ok (.iload_n 1, 1) := by decide +kernel
theorem dX8_takesShip_14 : decode cX8_takesShip 14 = .ok (.ifCond .ne 7, 3) := by decide +kernel
theorem dX8_takesShip_17 : decode cX8_takesShip 17 = .ok (.iconst 1, 1) := by decide +kernel
theorem dX8_takesShip_18 : decode cX8_takesShip 18 = .ok (.goto 4, 3) := by decide +kernel
theorem dX8_takesShip_21 : decode cX8_takesShip 21 = .ok (.iconst 0, 1) := by decide +kernel
theorem dX8_takesShip_22 : decode cX8_takesShip 22 = .ok (.iload_n 1, 1) := by decide +kernel
theorem dX8_takesShip_23 : decode cX8_takesShip 23 = .ok (.iconst 2, 1) := by decide +kernel
theorem dX8_takesShip_24 : decode cX8_takesShip 24 = .ok (.if_icmp .ne 8, 3) := by decide +kernel
theorem dX8_takesShip_27 : decode cX8_takesShip 27 = .ok (.bipush 9, 2) := by decide +kernel
theorem dX8_takesShip_29 : decode cX8_takesShip 29 = .ok (.goto 6, 3) := by decide +kernel
theorem dX8_takesShip_32 : decode cX8_takesShip 32 = .ok (.sipush 999, 3) := by decide +kernel
theorem dX8_takesShip_35 : decode cX8_takesShip 35 = .ok (.invokevirtual 115, 3) := by decide +kernel
theorem dX8_takesShip_38 : decode cX8_takesShip 38 = .ok (.ifCond .ne 5, 3) := by decide +kernel
theorem dX8_takesShip_41 : decode cX8_takesShip 41 = .ok (.iconst 0, 1) := by decide +kernel
theorem dX8_takesShip_42 : decode cX8_takesShip 42 = .ok (.ireturn, 1) := by decide +kernel
theorem dX8_takesShip_43 : decode cX8_takesShip 43 = .ok (.aload_n 0, 1) := by decide +kernel
theorem dX8_takesShip_44 : decode cX8_takesShip 44 = .ok (.getfield 39, 3) := by decide +kernel
theorem dX8_takesShip_47 : decode cX8_takesShip 47 = .ok (.iload_n 1, 1) := by decide +kernel
theorem dX8_takesShip_48 : decode cX8_takesShip 48 = .ok (.aload_n 0, 1) := by decide +kernel
theorem dX8_takesShip_49 : decode cX8_takesShip 49 = .ok (.getfield 109, 3) := by decide +kernel
theorem dX8_takesShip_52 : decode cX8_takesShip 52 = .ok (.iastore, 1) := by decide +kernel
theorem dX8_takesShip_53 : decode cX8_takesShip 53 = .ok (.iinc 1 1, 3) := by decide +kernel
theorem dX8_takesShip_56 : decode cX8_takesShip 56 = .ok (.goto (-49), 3) := by decide +kernel
theorem dX8_takesShip_59 : decode cX8_takesShip 59 = .ok (.iconst 1, 1) := by decide +kernel
theorem dX8_takesShip_60 : decode cX8_takesShip 60 = .ok (.ireturn, 1) := by decide +kernel
theorem dX8_takesLeg_0 : decode cX8_takesLeg 0 = .ok (.iconst 0, 1) := by decide +kernel
theorem dX8_takesLeg_1 : decode cX8_takesLeg 1 = .ok (.istore_n 1, 1) := by decide +kernel
theorem dX8_takesLeg_2 : decode cX8_takesLeg 2 = .ok (.iload_n 1, 1) := by decide +kernel
theorem dX8_takesLeg_3 : decode cX8_takesLeg 3 = .ok (.iconst 3, 1) := by decide +kernel
theorem dX8_takesLeg_4 : decode cX8_takesLeg 4 = .ok (.if_icmp .ge 57, 3) := by decide +kernel
theorem dX8_takesLeg_7 : decode cX8_takesLeg 7 = .ok (.aload_n 0, 1) := by decide +kernel
theorem dX8_takesLeg_8 : decode cX8_takesLeg 8 = .ok (.iload_n 1, 1) := by decide +kernel
theorem dX8_takesLeg_9 : decode cX8_takesLeg 9 = .ok (.iconst 2, 1) := by decide +kernel
theorem dX8_takesLeg_10 : decode cX8_takesLeg 10 = .ok (.if_icmp .ne 7, 3) := by decide +kernel
theorem dX8_takesLeg_13 : decode cX8_takesLeg 13 = .ok (.iconst 1, 1) := by decide +kernel
theorem dX8_takesLeg_14 : decode cX8_takesLeg 14 = .ok (.goto 4, 3) := by decide +kernel
theorem dX8_takesLeg_17 : decode cX8_takesLeg 17 = .ok (.iconst 0, 1) := by decide +kernel
theorem dX8_takesLeg_18 : decode cX8_takesLeg 18 = .ok (.iload_n 1, 1) := by decide +kernel
theorem dX8_takesLeg_19 : decode cX8_takesLeg 19 = .ok (.iconst 1, 1) := by decide +kernel
theorem dX8_takesLeg_20 : decode cX8_takesLeg 20 = .ok (.if_icmp .ne 8, 3) := by decide +kernel
theorem dX8_takesLeg_23 : decode cX8_takesLeg 23 = .ok (.bipush 9, 2) := by decide +kernel
theorem dX8_takesLeg_25 : decode cX8_takesLeg 25 = .ok (.goto 5, 3) := by decide +kernel
theorem dX8_takesLeg_28 : decode cX8_takesLeg 28 = .ok (.bipush 99, 2) := by decide +kernel
theorem dX8_takesLeg_30 : decode cX8_takesLeg 30 = .ok (.invokevirtual 115, 3) := by decide +kernel
theorem dX8_takesLeg_33 : decode cX8_takesLeg 33 = .ok (.ifCond .ne 5, 3) := by decide +kernel
theorem dX8_takesLeg_36 : decode cX8_takesLeg 36 = .ok (.iconst 0, 1) := by decide +kernel
theorem dX8_takesLeg_37 : decode cX8_takesLeg 37 = .ok (.ireturn, 1) := by decide +kernel
theorem dX8_takesLeg_38 : decode cX8_takesLeg 38 = .ok (.aload_n 0, 1) := by decide +kernel
theorem dX8_takesLeg_39 : decode cX8_takesLeg 39 = .ok (.getfield 42, 3) := by decide +kernel
theorem dX8_takesLeg_42 : decode cX8_takesLeg 42 = .ok (.iconst 3, 1) := by decide +kernel
theorem dX8_takesLeg_43 : decode cX8_takesLeg 43 = .ok (.aload_n 0, 1) := by decide +kernel
theorem dX8_takesLeg_44 : decode cX8_takesLeg 44 = .ok (.getfield 118, 3) := by decide +kernel
theorem dX8_takesLeg_47 : decode cX8_takesLeg 47 = .ok (.imul, 1) := by decide +kernel
theorem dX8_takesLeg_48 : decode cX8_takesLeg 48 = .ok (.iload_n 1, 1) := by decide +kernel
theorem dX8_takesLeg_49 : decode cX8_takesLeg 49 = .ok (.iadd, 1) := by decide +kernel
theorem dX8_takesLeg_50 : decode cX8_takesLeg 50 = .ok (.aload_n 0, 1) := by decide +kernel
theorem dX8_takesLeg_51 : decode cX8_takesLeg 51 = .ok (.getfield 109, 3) := by decide +kernel
theorem dX8_takesLeg_54 : decode cX8_takesLeg 54 = .ok (.iastore, 1) := by decide +kernel
theorem dX8_takesLeg_55 : decode cX8_takesLeg 55 = .ok (.iinc 1 1, 3) := by decide +kernel
theorem dX8_takesLeg_58 : decode cX8_takesLeg 58 = .ok (.goto (-56), 3) := by decide +kernel
theorem dX8_takesLeg_61 : decode cX8_takesLeg 61 = .ok (.aload_n 0, 1) := by decide +kernel
theorem dX8_takesLeg_62 : decode cX8_takesLeg 62 = .ok (.dup, 1) := by decide +kernel
theorem dX8_takesLeg_63 : decode cX8_takesLeg 63 = .ok (.getfield 118, 3) := by decide +kernel
theorem dX8_takesLeg_66 : decode cX8_takesLeg 66 = .ok (.iconst 1, 1) := by decide +kernel
theorem dX8_takesLeg_67 : decode cX8_takesLeg 67 = .ok (.iadd, 1) := by decide +kernel
theorem dX8_takesLeg_68 : decode cX8_takesLeg 68 = .ok (.putfield 118, 3) := by decide +kernel
theorem dX8_takesLeg_71 : decode cX8_takesLeg 71 = .ok (.iconst 1, 1) := by decide +kernel
theorem dX8_takesLeg_72 : decode cX8_takesLeg 72 = .ok (.ireturn, 1) := by decide +kernel
theorem dX8_takesLender_0 : decode cX8_takesLender 0 = .ok (.iconst 0, 1) := by decide +kernel
theorem dX8_takesLender_1 : decode cX8_takesLender 1 = .ok (.istore_n 1, 1) := by decide +kernel
theorem dX8_takesLender_2 : decode cX8_takesLender 2 = .ok (.iload_n 1, 1) := by decide +kernel
theorem dX8_takesLender_3 : decode cX8_takesLender 3 = .ok (.iconst 2, 1) := by decide +kernel
theorem dX8_takesLender_4 : decode cX8_takesLender 4 = .ok (.if_icmp .ge 49, 3) := by decide +kernel
theorem dX8_takesLender_7 : decode cX8_takesLender 7 = .ok (.aload_n 0, 1) := by decide +kernel
theorem dX8_takesLender_8 : decode cX8_takesLender 8 = .ok (.iconst 0, 1) := by decide +kernel
theorem dX8_takesLender_9 : decode cX8_takesLender 9 = .ok (.iload_n 1, 1) := by decide +kernel
theorem dX8_takesLender_10 : decode cX8_takesLender 10 = .ok (.ifCond .ne 9, 3) := by decide +kernel
theorem dX8_takesLender_13 : decode cX8_takesLender 13 = .ok (.sipush 999, 3) := by decide +kernel
theorem dX8_takesLender_16 : decode cX8_takesLender 16 = .ok (.goto 6, 3) := by decide +kernel
theorem dX8_takesLender_19 : decode cX8_takesLender 19 = .ok (.sipush 200, 3) := by decide +kernel
theorem dX8_takesLender_22 : decode cX8_takesLender 22 = .ok (.invokevirtual 115, 3) := by decide +kernel
theorem dX8_takesLender_25 : decode cX8_takesLender 25 = .ok (.ifCond .ne 5, 3) := by decide +kernel
theorem dX8_takesLender_28 : decode cX8_takesLender 28 = .ok (.iconst 0, 1) := by decide +kernel
theorem dX8_takesLender_29 : decode cX8_takesLender 29 = .ok (.ireturn, 1) := by decide +kernel
theorem dX8_takesLender_30 : decode cX8_takesLender 30 = .ok (.aload_n 0, 1) := by decide +kernel
theorem dX8_takesLender_31 : decode cX8_takesLender 31 = .ok (.getfield 45, 3) := by decide +kernel
theorem dX8_takesLender_34 : decode cX8_takesLender 34 = .ok (.iconst 2, 1) := by decide +kernel
theorem dX8_takesLender_35 : decode cX8_takesLender 35 = .ok (.aload_n 0, 1) := by decide +kernel
theorem dX8_takesLender_36 : decode cX8_takesLender 36 = .ok (.getfield 121, 3) := by decide +kernel
theorem dX8_takesLender_39 : decode cX8_takesLender 39 = .ok (.imul, 1) := by decide +kernel
theorem dX8_takesLender_40 : decode cX8_takesLender 40 = .ok (.iload_n 1, 1) := by decide +kernel
theorem dX8_takesLender_41 : decode cX8_takesLender 41 = .ok (.iadd, 1) := by decide +kernel
theorem dX8_takesLender_42 : decode cX8_takesLender 42 = .ok (.aload_n 0, 1) := by decide +kernel
theorem dX8_takesLender_43 : decode cX8_takesLender 43 = .ok (.getfield 109, 3) := by decide +kernel
theorem dX8_takesLender_46 : decode cX8_takesLender 46 = .ok (.iastore, 1) := by decide +kernel
theorem dX8_takesLender_47 : decode cX8_takesLender 47 = .ok (.iinc 1 1, 3) := by decide +kernel
theorem dX8_takesLender_50 : decode cX8_takesLender 50 = .ok (.goto (-48), 3) := by decide +kernel
theorem dX8_takesLender_53 : decode cX8_takesLender 53 = .ok (.aload_n 0, 1) := by decide +kernel
theorem dX8_takesLender_54 : decode cX8_takesLender 54 = .ok (.dup, 1) := by decide +kernel
theorem dX8_takesLender_55 : decode cX8_takesLender 55 = .ok (.getfield 121, 3) := by decide +kernel
theorem dX8_takesLender_58 : decode cX8_takesLender 58 = .ok (.iconst 1, 1) := by decide +kernel
theorem dX8_takesLender_59 : decode cX8_takesLender 59 = .ok (.iadd, 1) := by decide +kernel
theorem dX8_takesLender_60 : decode cX8_takesLender 60 = .ok (.putfield 121, 3) := by decide +kernel
theorem dX8_takesLender_63 : decode cX8_takesLender 63 = .ok (.iconst 1, 1) := by decide +kernel
theorem dX8_takesLender_64 : decode cX8_takesLender 64 = .ok (.ireturn, 1) := by decide +kernel
theorem dX8_takesClause_0 : decode cX8_takesClause 0 = .ok (.aload_n 0, 1) := by decide +kernel
theorem dX8_takesClause_1 : decode cX8_takesClause 1 = .ok (.invokevirtual 97, 3) := by decide +kernel
theorem dX8_takesClause_4 : decode cX8_takesClause 4 = .ok (.istore_n 1, 1) := by decide +kernel
theorem dX8_takesClause_5 : decode cX8_takesClause 5 = .ok (.iload_n 1, 1) := by decide +kernel
theorem dX8_takesClause_6 : decode cX8_takesClause 6 = .ok (.bipush 115, 2) := by decide +kernel
theorem dX8_takesClause_8 : decode cX8_takesClause 8 = .ok (.if_icmp .eq 22, 3) := by decide +kernel
theorem dX8_takesClause_11 : decode cX8_takesClause 11 = .ok (.aload_n 0, 1) := by decide +kernel
theorem dX8_takesClause_12 : decode cX8_takesClause 12 = .ok (.getfield 112, 3) := by decide +kernel
theorem dX8_takesClause_15 : decode cX8_takesClause 15 = .ok (.ifCond .eq 19, 3) := by decide +kernel
theorem dX8_takesClause_18 : decode cX8_takesClause 18 = .ok (.iload_n 1, 1) := by decide +kernel
theorem dX8_takesClause_19 : decode cX8_takesClause 19 = .ok (.bipush 108, 2) := by decide +kernel
theorem dX8_takesClause_21 : decode cX8_takesClause 21 = .ok (.if_icmp .eq 9, 3) := by decide +kernel
theorem dX8_takesClause_24 : decode cX8_takesClause 24 = .ok (.iload_n 1, 1) := by decide +kernel
theorem dX8_takesClause_25 : decode cX8_takesClause 25 = .ok (.bipush 109, 2) := by decide +kernel
theorem dX8_takesClause_27 : decode cX8_takesClause 27 = .ok (.if_icmp .ne 7, 3) := by decide +kernel
theorem dX8_takesClause_30 : decode cX8_takesClause 30 = .ok (.iconst 1, 1) := by decide +kernel
theorem dX8_takesClause_31 : decode cX8_takesClause 31 = .ok (.goto 4, 3) := by decide +kernel
theorem dX8_takesClause_34 : decode cX8_takesClause 34 = .ok (.iconst 0, 1) := by decide +kernel
theorem dX8_takesClause_35 : decode cX8_takesClause 35 = .ok (.istore_n 2, 1) := by decide +kernel
theorem dX8_takesClause_36 : decode cX8_takesClause 36 = .ok (.iload_n 2, 1) := by decide +kernel
theorem dX8_takesClause_37 : decode cX8_takesClause 37 = .ok (.ifCond .ne 13, 3) := by decide +kernel
theorem dX8_takesClause_40 : decode cX8_takesClause 40 = .ok (.aload_n 0, 1) := by decide +kernel
theorem dX8_takesClause_41 : decode cX8_takesClause 41 = .ok (.iconst 1, 1) := by decide +kernel
theorem dX8_takesClause_42 : decode cX8_takesClause 42 = .ok (.aload_n 0, 1) := by decide +kernel
theorem dX8_takesClause_43 : decode cX8_takesClause 43 = .ok (.getfield 91, 3) := by decide +kernel
theorem dX8_takesClause_46 : decode cX8_takesClause 46 = .ok (.invokevirtual 101, 3) := by decide +kernel
theorem dX8_takesClause_49 : decode cX8_takesClause 49 = .ok (.ireturn, 1) := by decide +kernel
theorem dX8_takesClause_50 : decode cX8_takesClause 50 = .ok (.iload_n 1, 1) := by decide +kernel
theorem dX8_takesClause_51 : decode cX8_takesClause 51 = .ok (.bipush 115, 2) := by decide +kernel
theorem dX8_takesClause_53 : decode cX8_takesClause 53 = .ok (.if_icmp .ne 10, 3) := by decide +kernel
theorem dX8_takesClause_56 : decode cX8_takesClause 56 = .ok (.aload_n 0, 1) := by decide +kernel
theorem dX8_takesClause_57 : decode cX8_takesClause 57 = .ok (.getfield 112, 3) := by decide +kernel
theorem dX8_takesClause_60 : decode cX8_takesClause 60 = .ok (.goto 39, 3) := by decide +kernel
theorem dX8_takesClause_63 : decode cX8_takesClause 63 = .ok (.iload_n 1, 1) := by decide +kernel
theorem dX8_takesClause_64 : decode cX8_takesClause 64 = .ok (.bipush 108, 2) := by decide +kernel
theorem dX8_takesClause_66 : decode cX8_takesClause 66 = .ok (.if_icmp .ne 20, 3) := by decide +kernel
theorem dX8_takesClause_69 : decode cX8_takesClause 69 = .ok (.aload_n 0, 1) := by decide +kernel
theorem dX8_takesClause_70 : decode cX8_takesClause 70 = .ok (.getfield 118, 3) := by decide +kernel
theorem dX8_takesClause_73 : decode cX8_takesClause 73 = .ok (.bipush 7, 2) := by decide +kernel
theorem dX8_takesClause_75 : decode cX8_takesClause 75 = .ok (.if_icmp .ne 7, 3) := by decide +kernel
theorem dX8_takesClause_78 : decode cX8_takesClause 78 = .ok (.iconst 1, 1) := by decide +kernel
theorem dX8_takesClause_79 : decode cX8_takesClause 79 = .ok (.goto 20, 3) := by decide +kernel
theorem dX8_takesClause_82 : decode cX8_takesClause 82 = .ok (.iconst 0, 1) := by decide +kernel
theorem dX8_takesClause_83 : decode cX8_takesClause 83 = .ok (.goto 16, 3) := by decide +kernel
theorem dX8_takesClause_86 : decode cX8_takesClause 86 = .ok (.aload_n 0, 1) := by decide +kernel
theorem dX8_takesClause_87 : decode cX8_takesClause 87 = .ok (.getfield 121, 3) := by decide +kernel
theorem dX8_takesClause_90 : decode cX8_takesClause 90 = .ok (.iconst 5, 1) := by decide +kernel
theorem dX8_takesClause_91 : decode cX8_takesClause 91 = .ok (.if_icmp .ne 7, 3) := by decide +kernel
theorem dX8_takesClause_94 : decode cX8_takesClause 94 = .ok (.iconst 1, 1) := by decide +kernel
theorem dX8_takesClause_95 : decode cX8_takesClause 95 = .ok (.goto 4, 3) := by decide +kernel
theorem dX8_takesClause_98 : decode cX8_takesClause 98 = .ok (.iconst 0, 1) := by decide +kernel
theorem dX8_takesClause_99 : decode cX8_takesClause 99 = .ok (.istore_n 3, 1) := by decide +kernel
theorem dX8_takesClause_100 : decode cX8_takesClause 100 = .ok (.iload_n 3, 1) := by decide +kernel
theorem dX8_takesClause_101 : decode cX8_takesClause 101 = .ok (.ifCond .eq 13, 3) := by decide +kernel
theorem dX8_takesClause_104 : decode cX8_takesClause 104 = .ok (.aload_n 0, 1) := by decide +kernel
theorem dX8_takesClause_105 : decode cX8_takesClause 105 = .ok (.iconst 3, 1) := by decide +kernel
theorem dX8_takesClause_106 : decode cX8_takesClause 106 = .ok (.aload_n 0, 1) := by decide +kernel
theorem dX8_takesClause_107 : decode cX8_takesClause 107 = .ok (.getfield 91, 3) := by decide +kernel
theorem dX8_takesClause_110 : decode cX8_takesClause 110 = .ok (.invokevirtual 101, 3) := by decide +kernel
theorem dX8_takesClause_113 : decode cX8_takesClause 113 = .ok (.ireturn, 1) := by decide +kernel
theorem dX8_takesClause_114 : decode cX8_takesClause 114 = .ok (.aload_n 0, 1) := by decide +kernel
theorem dX8_takesClause_115 : decode cX8_takesClause 115 = .ok (.dup, 1) := by decide +kernel
theorem dX8_takesClause_116 : decode cX8_takesClause 116 = .ok (.getfield 84, 3) := by decide +kernel
theorem dX8_takesClause_119 : decode cX8_takesClause 119 = .ok (.iconst 1, 1) := by decide +kernel
theorem dX8_takesClause_120 : decode cX8_takesClause 120 = .ok (.iadd, 1) := by decide +kernel
theorem dX8_takesClause_121 : decode cX8_takesClause 121 = .ok (.putfield 84, 3) := by decide +kernel
theorem dX8_takesClause_124 : decode cX8_takesClause 124 = .ok (.iload_n 1, 1) := by decide +kernel
theorem dX8_takesClause_125 : decode cX8_takesClause 125 = .ok (.bipush 115, 2) := by decide +kernel
theorem dX8_takesClause_127 : decode cX8_takesClause 127 = .ok (.if_icmp .ne 10, 3) := by decide +kernel
theorem dX8_takesClause_130 : decode cX8_takesClause 130 = .ok (.aload_n 0, 1) := by decide +kernel
theorem dX8_takesClause_131 : decode cX8_takesClause 131 = .ok (.invokevirtual 124, 3) := by decide +kernel
theorem dX8_takesClause_134 : decode cX8_takesClause 134 = .ok (.goto 20, 3) := by decide +kernel
theorem dX8_takesClause_137 : decode cX8_takesClause 137 = .ok (.iload_n 1, 1) := by decide +kernel
theorem dX8_takesClause_138 : decode cX8_takesClause 138 = .ok (.bipush 108, 2) := by decide +kernel
theorem dX8_takesClause_140 : decode cX8_takesClause 140 = .ok (.if_icmp .ne 10, 3) := by decide +kernel
theorem dX8_takesClause_143 : decode cX8_takesClause 143 = .ok (.aload_n 0, 1) := by decide +kernel
theorem dX8_takesClause_144 : decode cX8_takesClause 144 = .ok (.invokevirtual 128, 3) := by decide +kernel
theorem dX8_takesClause_147 : decode cX8_takesClause 147 = .ok (.goto 7, 3) := by decide +kernel
theorem dX8_takesClause_150 : decode cX8_takesClause 150 = .ok (.aload_n 0, 1) := by decide +kernel
theorem dX8_takesClause_151 : decode cX8_takesClause 151 = .ok (.invokevirtual 131, 3) := by decide +kernel
theorem dX8_takesClause_154 : decode cX8_takesClause 154 = .ok (.istore 4, 2) := by decide +kernel
theorem dX8_takesClause_156 : decode cX8_takesClause 156 = .ok (.iload 4, 2) := by decide +kernel
theorem dX8_takesClause_158 : decode cX8_takesClause 158 = .ok (.ifCond .eq 16, 3) := by decide +kernel
theorem dX8_takesClause_161 : decode cX8_takesClause 161 = .ok (.aload_n 0, 1) := by decide +kernel
theorem dX8_takesClause_162 : decode cX8_takesClause 162 = .ok (.bipush 59, 2) := by decide +kernel
theorem dX8_takesClause_164 : decode cX8_takesClause 164 = .ok (.invokevirtual 134, 3) := by decide +kernel
theorem dX8_takesClause_167 : decode cX8_takesClause 167 = .ok (.ifCond .eq 7, 3) := by decide +kernel
theorem dX8_takesClause_170 : decode cX8_takesClause 170 = .ok (.iconst 1, 1) := by decide +kernel
theorem dX8_takesClause_171 : decode cX8_takesClause 171 = .ok (.goto 4, 3) := by decide +kernel
theorem dX8_takesClause_174 : decode cX8_takesClause 174 = .ok (.iconst 0, 1) := by decide +kernel
theorem dX8_takesClause_175 : decode cX8_takesClause 175 = .ok (.ireturn, 1) := by decide +kernel
theorem dX8_voyage_0 : decode cX8_voyage 0 = .ok (.aload_n 0, 1) := by decide +kernel
theorem dX8_voyage_1 : decode cX8_voyage 1 = .ok (.iconst 0, 1) := by decide +kernel
theorem dX8_voyage_2 : decode cX8_voyage 2 = .ok (.putfield 84, 3) := by decide +kernel
theorem dX8_voyage_5 : decode cX8_voyage 5 = .ok (.aload_n 0, 1) := by decide +kernel
theorem dX8_voyage_6 : decode cX8_voyage 6 = .ok (.iconst 0, 1) := by decide +kernel
theorem dX8_voyage_7 : decode cX8_voyage 7 = .ok (.putfield 94, 3) := by decide +kernel
theorem dX8_voyage_10 : decode cX8_voyage 10 = .ok (.aload_n 0, 1) := by decide +kernel
theorem dX8_voyage_11 : decode cX8_voyage 11 = .ok (.iconst (-1), 1) := by decide +kernel
theorem dX8_voyage_12 : decode cX8_voyage 12 = .ok (.putfield 35, 3) := by decide +kernel
theorem dX8_voyage_15 : decode cX8_voyage 15 = .ok (.aload_n 0, 1) := by decide +kernel
theorem dX8_voyage_16 : decode cX8_voyage 16 = .ok (.iconst 0, 1) := by decide +kernel
theorem dX8_voyage_17 : decode cX8_voyage 17 = .ok (.putfield 112, 3) := by decide +kernel
theorem dX8_voyage_20 : decode cX8_voyage 20 = .ok (.aload_n 0, 1) := by decide +kernel
theorem dX8_voyage_21 : decode cX8_voyage 21 = .ok (.iconst 0, 1) := by decide +kernel
theorem dX8_voyage_22 : decode cX8_voyage 22 = .ok (.putfield 118, 3) := by decide +kernel
theorem dX8_voyage_25 : decode cX8_voyage 25 = .ok (.aload_n 0, 1) := by decide +kernel
theorem dX8_voyage_26 : decode cX8_voyage 26 = .ok (.iconst 0, 1) := by decide +kernel
theorem dX8_voyage_27 : decode cX8_voyage 27 = .ok (.putfield 121, 3) := by decide +kernel
theorem dX8_voyage_30 : decode cX8_voyage 30 = .ok (.iconst 1, 1) := by decide +kernel
theorem dX8_voyage_31 : decode cX8_voyage 31 = .ok (.istore_n 1, 1) := by decide +kernel
theorem dX8_voyage_32 : decode cX8_voyage 32 = .ok (.iload_n 1, 1) := by decide +kernel
theorem dX8_voyage_33 : decode cX8_voyage 33 = .ok (.ifCond .eq 19, 3) := by decide +kernel
theorem dX8_voyage_36 : decode cX8_voyage 36 = .ok (.aload_n 0, 1) := by decide +kernel
theorem dX8_voyage_37 : decode cX8_voyage 37 = .ok (.invokevirtual 97, 3) := by decide +kernel
theorem dX8_voyage_40 : decode cX8_voyage 40 = .ok (.iconst (-1), 1) := by decide +kernel
theorem dX8_voyage_41 : decode cX8_voyage 41 = .ok (.if_icmp .eq 11, 3) := by decide +kernel
theorem dX8_voyage_44 : decode cX8_voyage 44 = .ok (.aload_n 0, 1) := by decide +kernel
theorem dX8_voyage_45 : decode cX8_voyage 45 = .ok (.invokevirtual 138, 3) := by decide +kernel
theorem dX8_voyage_48 : decode cX8_voyage 48 = .ok (.istore_n 1, 1) := by decide +kernel
theorem dX8_voyage_49 : decode cX8_voyage 49 = .ok (.goto (-17), 3) := by decide +kernel
theorem dX8_voyage_52 : decode cX8_voyage 52 = .ok (.aload_n 0, 1) := by decide +kernel
theorem dX8_voyage_53 : decode cX8_voyage 53 = .ok (.iconst 0, 1) := by decide +kernel
theorem dX8_voyage_54 : decode cX8_voyage 54 = .ok (.putfield 80, 3) := by decide +kernel
theorem dX8_voyage_57 : decode cX8_voyage 57 = .ok (.iload_n 1, 1) := by decide +kernel
theorem dX8_voyage_58 : decode cX8_voyage 58 = .ok (.ifCond .ne 11, 3) := by decide +kernel
theorem dX8_voyage_61 : decode cX8_voyage 61 = .ok (.bipush (-10), 2) := by decide +kernel
theorem dX8_voyage_63 : decode cX8_voyage 63 = .ok (.aload_n 0, 1) := by decide +kernel
theorem dX8_voyage_64 : decode cX8_voyage 64 = .ok (.getfield 94, 3) := by decide +kernel
theorem dX8_voyage_67 : decode cX8_voyage 67 = .ok (.isub, 1) := by decide +kernel
theorem dX8_voyage_68 : decode cX8_voyage 68 = .ok (.ireturn, 1) := by decide +kernel
theorem dX8_voyage_69 : decode cX8_voyage 69 = .ok (.aload_n 0, 1) := by decide +kernel
theorem dX8_voyage_70 : decode cX8_voyage 70 = .ok (.aload_n 0, 1) := by decide +kernel
theorem dX8_voyage_71 : decode cX8_voyage 71 = .ok (.getfield 112, 3) := by decide +kernel
theorem dX8_voyage_74 : decode cX8_voyage 74 = .ok (.putfield 63, 3) := by decide +kernel
theorem dX8_voyage_77 : decode cX8_voyage 77 = .ok (.aload_n 0, 1) := by decide +kernel
theorem dX8_voyage_78 : decode cX8_voyage 78 = .ok (.aload_n 0, 1) := by decide +kernel
theorem dX8_voyage_79 : decode cX8_voyage 79 = .ok (.getfield 63, 3) := by decide +kernel
theorem dX8_voyage_82 : decode cX8_voyage 82 = .ok (.ifCond .eq 12, 3) := by decide +kernel
theorem dX8_voyage_85 : decode cX8_voyage 85 = .ok (.aload_n 0, 1) := by decide +kernel
theorem dX8_voyage_86 : decode cX8_voyage 86 = .ok (.getfield 39, 3) := by decide +kernel
theorem dX8_voyage_89 : decode cX8_voyage 89 = .ok (.iconst 0, 1) := by decide +kernel
theorem dX8_voyage_90 : decode cX8_voyage 90 = .ok (.iaload, 1) := by decide +kernel
theorem dX8_voyage_91 : decode cX8_voyage 91 = .ok (.goto 4, 3) := by decide +kernel
theorem dX8_voyage_94 : decode cX8_voyage 94 = .ok (.iconst 0, 1) := by decide +kernel
theorem dX8_voyage_95 : decode cX8_voyage 95 = .ok (.putfield 141, 3) := by decide +kernel
theorem dX8_voyage_98 : decode cX8_voyage 98 = .ok (.aload_n 0, 1) := by decide +kernel
theorem dX8_voyage_99 : decode cX8_voyage 99 = .ok (.aload_n 0, 1) := by decide +kernel
theorem dX8_voyage_100 : decode cX8_voyage 100 = .ok (.getfield 63, 3) := by decide +kernel
theorem dX8_voyage_103 : decode cX8_voyage 103 = .ok (.ifCond .eq 12, 3) := by decide +kernel
theorem dX8_voyage_106 : decode cX8_voyage 106 = .ok (.aload_n 0, 1) := by decide +kernel
theorem dX8_voyage_107 : decode cX8_voyage 107 = .ok (.getfield 39, 3) := by decide +kernel
theorem dX8_voyage_110 : decode cX8_voyage 110 = .ok (.iconst 1, 1) := by decide +kernel
theorem dX8_voyage_111 : decode cX8_voyage 111 = .ok (.iaload, 1) := by decide +kernel
theorem dX8_voyage_112 : decode cX8_voyage 112 = .ok (.goto 4, 3) := by decide +kernel
theorem dX8_voyage_115 : decode cX8_voyage 115 = .ok (.iconst 0, 1) := by decide +kernel
theorem dX8_voyage_116 : decode cX8_voyage 116 = .ok (.putfield 144, 3) := by decide +kernel
theorem dX8_voyage_119 : decode cX8_voyage 119 = .ok (.aload_n 0, 1) := by decide +kernel
theorem dX8_voyage_120 : decode cX8_voyage 120 = .ok (.aload_n 0, 1) := by decide +kernel
theorem dX8_voyage_121 : decode cX8_voyage 121 = .ok (.getfield 118, 3) := by decide +kernel
theorem dX8_voyage_124 : decode cX8_voyage 124 = .ok (.putfield 67, 3) := by decide +kernel
theorem dX8_voyage_127 : decode cX8_voyage 127 = .ok (.aload_n 0, 1) := by decide +kernel
theorem dX8_voyage_128 : decode cX8_voyage 128 = .ok (.aload_n 0, 1) := by decide +kernel
theorem dX8_voyage_129 : decode cX8_voyage 129 = .ok (.getfield 121, 3) := by decide +kernel
theorem dX8_voyage_132 : decode cX8_voyage 132 = .ok (.putfield 74, 3) := by decide +kernel
theorem dX8_voyage_135 : decode cX8_voyage 135 = .ok (.iconst 0, 1) := by decide +kernel
theorem dX8_voyage_136 : decode cX8_voyage 136 = .ok (.istore_n 2, 1) := by decide +kernel
theorem dX8_voyage_137 : decode cX8_voyage 137 = .ok (.iload_n 2, 1) := by decide +kernel
theorem dX8_voyage_138 : decode cX8_voyage 138 = .ok (.aload_n 0, 1) := by decide +kernel
theorem dX8_voyage_139 : decode cX8_voyage 139 = .ok (.getfield 67, 3) := by decide +kernel
theorem dX8_voyage_142 : decode cX8_voyage 142 = .ok (.if_icmp .ge 55, 3) := by decide +kernel
theorem dX8_voyage_145 : decode cX8_voyage 145 = .ok (.aload_n 0, 1) := by decide +kernel
theorem dX8_voyage_146 : decode cX8_voyage 146 = .ok (.getfield 17, 3) := by decide +kernel
theorem dX8_voyage_149 : decode cX8_voyage 149 = .ok (.iload_n 2, 1) := by decide +kernel
theorem dX8_voyage_150 : decode cX8_voyage 150 = .ok (.aload_n 0, 1) := by decide +kernel
theorem dX8_voyage_151 : decode cX8_voyage 151 = .ok (.getfield 42, 3) := by decide +kernel
theorem dX8_voyage_154 : decode cX8_voyage 154 = .ok (.iconst 3, 1) := by decide +kernel
theorem dX8_voyage_155 : decode cX8_voyage 155 = .ok (.iload_n 2, 1) := by decide +kernel
theorem dX8_voyage_156 : decode cX8_voyage 156 = .ok (.imul, 1) := by decide +kernel
theorem dX8_voyage_157 : decode cX8_voyage 157 = .ok (.iaload, 1) := by decide +kernel
theorem dX8_voyage_158 : decode cX8_voyage 158 = .ok (.iastore, 1) := by decide +kernel
theorem dX8_voyage_159 : decode cX8_voyage 159 = .ok (.aload_n 0, 1) := by decide +kernel
theorem dX8_voyage_160 : decode cX8_voyage 160 = .ok (.getfield 20, 3) := by decide +kernel
theorem dX8_voyage_163 : decode cX8_voyage 163 = .ok (.iload_n 2, 1) := by decide +kernel
theorem dX8_voyage_164 : decode cX8_voyage 164 = .ok (.aload_n 0, 1) := by decide +kernel
theorem dX8_voyage_165 : decode cX8_voyage 165 = .ok (.getfield 42, 3) := by decide +kernel
theorem dX8_voyage_168 : decode cX8_voyage 168 = .ok (.iconst 3, 1) := by decide +kernel
theorem dX8_voyage_169 : decode cX8_voyage 169 = .ok (.iload_n 2, 1) := by decide +kernel
theorem dX8_voyage_170 : decode cX8_voyage 170 = .ok (.imul, 1) := by decide +kernel
theorem dX8_voyage_171 : decode cX8_voyage 171 = .ok (.iconst 1, 1) := by decide +kernel
theorem dX8_voyage_172 : decode cX8_voyage 172 = .ok (.iadd, 1) := by decide +kernel
theorem dX8_voyage_173 : decode cX8_voyage 173 = .ok (.iaload, 1) := by decide +kernel
theorem dX8_voyage_174 : decode cX8_voyage 174 = .ok (.iastore, 1) := by decide +kernel
theorem dX8_voyage_175 : decode cX8_voyage 175 = .ok (.aload_n 0, 1) := by decide +kernel
theorem dX8_voyage_176 : decode cX8_voyage 176 = .ok (.getfield 23, 3) := by decide +kernel
theorem dX8_voyage_179 : decode cX8_voyage 179 = .ok (.iload_n 2, 1) := by decide +kernel
theorem dX8_voyage_180 : decode cX8_voyage 180 = .ok (.aload_n 0, 1) := by decide +kernel
theorem dX8_voyage_181 : decode cX8_voyage 181 = .ok (.getfield 42, 3) := by decide +kernel
theorem dX8_voyage_184 : decode cX8_voyage 184 = .ok (.iconst 3, 1) := by decide +kernel
theorem dX8_voyage_185 : decode cX8_voyage 185 = .ok (.iload_n 2, 1) := by decide +kernel
theorem dX8_voyage_186 : decode cX8_voyage 186 = .ok (.imul, 1) := by decide +kernel
theorem dX8_voyage_187 : decode cX8_voyage 187 = .ok (.iconst 2, 1) := by decide +kernel
theorem dX8_voyage_188 : decode cX8_voyage 188 = .ok (.iadd, 1) := by decide +kernel
theorem dX8_voyage_189 : decode cX8_voyage 189 = .ok (.iaload, 1) := by decide +kernel
theorem dX8_voyage_190 : decode cX8_voyage 190 = .ok (.iastore, 1) := by decide +kernel
theorem dX8_voyage_191 : decode cX8_voyage 191 = .ok (.iinc 2 1, 3) := by decide +kernel
theorem dX8_voyage_194 : decode cX8_voyage 194 = .ok (.goto (-57), 3) := by decide +kernel
theorem dX8_voyage_197 : decode cX8_voyage 197 = .ok (.iconst 0, 1) := by decide +kernel
theorem dX8_voyage_198 : decode cX8_voyage 198 = .ok (.istore_n 2, 1) := by decide +kernel
theorem dX8_voyage_199 : decode cX8_voyage 199 = .ok (.iload_n 2, 1) := by decide +kernel
theorem dX8_voyage_200 : decode cX8_voyage 200 = .ok (.aload_n 0, 1) := by decide +kernel
theorem dX8_voyage_201 : decode cX8_voyage 201 = .ok (.getfield 74, 3) := by decide +kernel
theorem dX8_voyage_204 : decode cX8_voyage 204 = .ok (.if_icmp .ge 39, 3) := by decide +kernel
theorem dX8_voyage_207 : decode cX8_voyage 207 = .ok (.aload_n 0, 1) := by decide +kernel
theorem dX8_voyage_208 : decode cX8_voyage 208 = .ok (.getfield 26, 3) := by decide +kernel
theorem dX8_voyage_211 : decode cX8_voyage 211 = .ok (.iload_n 2, 1) := by decide +kernel
theorem dX8_voyage_212 : decode cX8_voyage 212 = .ok (.aload_n 0, 1) := by decide +kernel
theorem dX8_voyage_213 : decode cX8_voyage 213 = .ok (.getfield 45, 3) := by decide +kernel
theorem dX8_voyage_216 : decode cX8_voyage 216 = .ok (.iconst 2, 1) := by decide +kernel
theorem dX8_voyage_217 : decode cX8_voyage 217 = .ok (.iload_n 2, 1) := by decide +kernel
theorem dX8_voyage_218 : decode cX8_voyage 218 = .ok (.imul, 1) := by decide +kernel
theorem dX8_voyage_219 : decode cX8_voyage 219 = .ok (.iaload, 1) := by decide +kernel
theorem dX8_voyage_220 : decode cX8_voyage 220 = .ok (.iastore, 1) := by decide +kernel
theorem dX8_voyage_221 : decode cX8_voyage 221 = .ok (.aload_n 0, 1) := by decide +kernel
theorem dX8_voyage_222 : decode cX8_voyage 222 = .ok (.getfield 29, 3) := by decide +kernel
theorem dX8_voyage_225 : decode cX8_voyage 225 = .ok (.iload_n 2, 1) := by decide +kernel
theorem dX8_voyage_226 : decode cX8_voyage 226 = .ok (.aload_n 0, 1) := by decide +kernel
theorem dX8_voyage_227 : decode cX8_voyage 227 = .ok (.getfield 45, 3) := by decide +kernel
theorem dX8_voyage_230 : decode cX8_voyage 230 = .ok (.iconst 2, 1) := by decide +kernel
theorem dX8_voyage_231 : decode cX8_voyage 231 = .ok (.iload_n 2, 1) := by decide +kernel
theorem dX8_voyage_232 : decode cX8_voyage 232 = .ok (.imul, 1) := by decide +kernel
theorem dX8_voyage_233 : decode cX8_voyage 233 = .ok (.iconst 1, 1) := by decide +kernel
theorem dX8_voyage_234 : decode cX8_voyage 234 = .ok (.iadd, 1) := by decide +kernel
theorem dX8_voyage_235 : decode cX8_voyage 235 = .ok (.iaload, 1) := by decide +kernel
theorem dX8_voyage_236 : decode cX8_voyage 236 = .ok (.iastore, 1) := by decide +kernel
theorem dX8_voyage_237 : decode cX8_voyage 237 = .ok (.iinc 2 1, 3) := by decide +kernel
theorem dX8_voyage_240 : decode cX8_voyage 240 = .ok (.goto (-41), 3) := by decide +kernel
theorem dX8_voyage_243 : decode cX8_voyage 243 = .ok (.aload_n 0, 1) := by decide +kernel
theorem dX8_voyage_244 : decode cX8_voyage 244 = .ok (.getfield 7, 3) := by decide +kernel
theorem dX8_voyage_247 : decode cX8_voyage 247 = .ok (.bipush 41, 2) := by decide +kernel
theorem dX8_voyage_249 : decode cX8_voyage 249 = .ok (.iaload, 1) := by decide +kernel
theorem dX8_voyage_250 : decode cX8_voyage 250 = .ok (.istore_n 2, 1) := by decide +kernel
theorem dX8_voyage_251 : decode cX8_voyage 251 = .ok (.iconst 0, 1) := by decide +kernel
theorem dX8_voyage_252 : decode cX8_voyage 252 = .ok (.istore_n 3, 1) := by decide +kernel
theorem dX8_voyage_253 : decode cX8_voyage 253 = .ok (.iload_n 3, 1) := by decide +kernel
theorem dX8_voyage_254 : decode cX8_voyage 254 = .ok (.bipush 42, 2) := by decide +kernel
theorem dX8_voyage_256 : decode cX8_voyage 256 = .ok (.if_icmp .ge 16, 3) := by decide +kernel
theorem dX8_voyage_259 : decode cX8_voyage 259 = .ok (.aload_n 0, 1) := by decide +kernel
theorem dX8_voyage_260 : decode cX8_voyage 260 = .ok (.getfield 7, 3) := by decide +kernel
theorem dX8_voyage_263 : decode cX8_voyage 263 = .ok (.iload_n 3, 1) := by decide +kernel
theorem dX8_voyage_264 : decode cX8_voyage 264 = .ok (.iconst 0, 1) := by decide +kernel
theorem dX8_voyage_265 : decode cX8_voyage 265 = .ok (.iastore, 1) := by decide +kernel
theorem dX8_voyage_266 : decode cX8_voyage 266 = .ok (.iinc 3 1, 3) := by decide +kernel
theorem dX8_voyage_269 : decode cX8_voyage 269 = .ok (.goto (-16), 3) := by decide +kernel
theorem dX8_voyage_272 : decode cX8_voyage 272 = .ok (.aload_n 0, 1) := by decide +kernel
theorem dX8_voyage_273 : decode cX8_voyage 273 = .ok (.getfield 7, 3) := by decide +kernel
theorem dX8_voyage_276 : decode cX8_voyage 276 = .ok (.iconst 2, 1) := by decide +kernel
theorem dX8_voyage_277 : decode cX8_voyage 277 = .ok (.aload_n 0, 1) := by decide +kernel
theorem dX8_voyage_278 : decode cX8_voyage 278 = .ok (.getfield 63, 3) := by decide +kernel
theorem dX8_voyage_281 : decode cX8_voyage 281 = .ok (.ifCond .eq 12, 3) := by decide +kernel
theorem dX8_voyage_284 : decode cX8_voyage 284 = .ok (.aload_n 0, 1) := by decide +kernel
theorem dX8_voyage_285 : decode cX8_voyage 285 = .ok (.getfield 39, 3) := by decide +kernel
theorem dX8_voyage_288 : decode cX8_voyage 288 = .ok (.iconst 2, 1) := by decide +kernel
theorem dX8_voyage_289 : decode cX8_voyage 289 = .ok (.iaload, 1) := by decide +kernel
theorem dX8_voyage_290 : decode cX8_voyage 290 = .ok (.goto 4, 3) := by decide +kernel
theorem dX8_voyage_293 : decode cX8_voyage 293 = .ok (.iconst 0, 1) := by decide +kernel
theorem dX8_voyage_294 : decode cX8_voyage 294 = .ok (.iastore, 1) := by decide +kernel
theorem dX8_voyage_295 : decode cX8_voyage 295 = .ok (.aload_n 0, 1) := by decide +kernel
theorem dX8_voyage_296 : decode cX8_voyage 296 = .ok (.getfield 7, 3) := by decide +kernel
theorem dX8_voyage_299 : decode cX8_voyage 299 = .ok (.iconst 3, 1) := by decide +kernel
theorem dX8_voyage_300 : decode cX8_voyage 300 = .ok (.aload_n 0, 1) := by decide +kernel
theorem dX8_voyage_301 : decode cX8_voyage 301 = .ok (.getfield 63, 3) := by decide +kernel
theorem dX8_voyage_304 : decode cX8_voyage 304 = .ok (.ifCond .eq 12, 3) := by decide +kernel
theorem dX8_voyage_307 : decode cX8_voyage 307 = .ok (.aload_n 0, 1) := by decide +kernel
theorem dX8_voyage_308 : decode cX8_voyage 308 = .ok (.getfield 39, 3) := by decide +kernel
theorem dX8_voyage_311 : decode cX8_voyage 311 = .ok (.iconst 3, 1) := by decide +kernel
theorem dX8_voyage_312 : decode cX8_voyage 312 = .ok (.iaload, 1) := by decide +kernel
theorem dX8_voyage_313 : decode cX8_voyage 313 = .ok (.goto 4, 3) := by decide +kernel
theorem dX8_voyage_316 : decode cX8_voyage 316 = .ok (.iconst 0, 1) := by decide +kernel
theorem dX8_voyage_317 : decode cX8_voyage 317 = .ok (.iastore, 1) := by decide +kernel
theorem dX8_voyage_318 : decode cX8_voyage 318 = .ok (.aload_n 0, 1) := by decide +kernel
theorem dX8_voyage_319 : decode cX8_voyage 319 = .ok (.getfield 7, 3) := by decide +kernel
theorem dX8_voyage_322 : decode cX8_voyage 322 = .ok (.bipush 41, 2) := by decide +kernel
theorem dX8_voyage_324 : decode cX8_voyage 324 = .ok (.iload_n 2, 1) := by decide +kernel
theorem dX8_voyage_325 : decode cX8_voyage 325 = .ok (.iastore, 1) := by decide +kernel
theorem dX8_voyage_326 : decode cX8_voyage 326 = .ok (.aload_n 0, 1) := by decide +kernel
theorem dX8_voyage_327 : decode cX8_voyage 327 = .ok (.iconst 0, 1) := by decide +kernel
theorem dX8_voyage_328 : decode cX8_voyage 328 = .ok (.putfield 147, 3) := by decide +kernel
theorem dX8_voyage_331 : decode cX8_voyage 331 = .ok (.aload_n 0, 1) := by decide +kernel
theorem dX8_voyage_332 : decode cX8_voyage 332 = .ok (.iconst 0, 1) := by decide +kernel
theorem dX8_voyage_333 : decode cX8_voyage 333 = .ok (.putfield 150, 3) := by decide +kernel
theorem dX8_voyage_336 : decode cX8_voyage 336 = .ok (.aload_n 0, 1) := by decide +kernel
theorem dX8_voyage_337 : decode cX8_voyage 337 = .ok (.iconst 0, 1) := by decide +kernel
theorem dX8_voyage_338 : decode cX8_voyage 338 = .ok (.putfield 153, 3) := by decide +kernel
theorem dX8_voyage_341 : decode cX8_voyage 341 = .ok (.aload_n 0, 1) := by decide +kernel
theorem dX8_voyage_342 : decode cX8_voyage 342 = .ok (.getfield 13, 3) := by decide +kernel
theorem dX8_voyage_345 : decode cX8_voyage 345 = .ok (.iconst 0, 1) := by decide +kernel
theorem dX8_voyage_346 : decode cX8_voyage 346 = .ok (.iconst 0, 1) := by decide +kernel
theorem dX8_voyage_347 : decode cX8_voyage 347 = .ok (.bastore, 1) := by decide +kernel
theorem dX8_voyage_348 : decode cX8_voyage 348 = .ok (.aload_n 0, 1) := by decide +kernel
theorem dX8_voyage_349 : decode cX8_voyage 349 = .ok (.getfield 13, 3) := by decide +kernel
theorem dX8_voyage_352 : decode cX8_voyage 352 = .ok (.iconst 1, 1) := by decide +kernel
theorem dX8_voyage_353 : decode cX8_voyage 353 = .ok (.iconst 0, 1) := by decide +kernel
theorem dX8_voyage_354 : decode cX8_voyage 354 = .ok (.bastore, 1) := by decide +kernel
theorem dX8_voyage_355 : decode cX8_voyage 355 = .ok (.aload_n 0, 1) := by decide +kernel
theorem dX8_voyage_356 : decode cX8_voyage 356 = .ok (.getfield 67, 3) := by decide +kernel
theorem dX8_voyage_359 : decode cX8_voyage 359 = .ok (.ireturn, 1) := by decide +kernel
theorem dX8_fault_0 : decode cX8_fault 0 = .ok (.aload_n 0, 1) := by decide +kernel
theorem dX8_fault_1 : decode cX8_fault 1 = .ok (.getfield 35, 3) := by decide +kernel
theorem dX8_fault_4 : decode cX8_fault 4 = .ok (.ireturn, 1) := by decide +kernel
theorem dX8_where_0 : decode cX8_where 0 = .ok (.aload_n 0, 1) := by decide +kernel
theorem dX8_where_1 : decode cX8_where 1 = .ok (.getfield 7, 3) := by decide +kernel
theorem dX8_where_4 : decode cX8_where 4 = .ok (.iconst 1, 1) := by decide +kernel
theorem dX8_where_5 : decode cX8_where 5 = .ok (.iaload, 1) := by decide +kernel
theorem dX8_where_6 : decode cX8_where 6 = .ok (.iconst 1, 1) := by decide +kernel
theorem dX8_where_7 : decode cX8_where 7 = .ok (.if_icmp .ne 7, 3) := by decide +kernel
theorem dX8_where_10 : decode cX8_where 10 = .ok (.iconst 2, 1) := by decide +kernel
theorem dX8_where_11 : decode cX8_where 11 = .ok (.goto 28, 3) := by decide +kernel
theorem dX8_where_14 : decode cX8_where 14 = .ok (.aload_n 0, 1) := by decide +kernel
theorem dX8_where_15 : decode cX8_where 15 = .ok (.getfield 63, 3) := by decide +kernel
theorem dX8_where_18 : decode cX8_where 18 = .ok (.ifCond .eq 16, 3) := by decide +kernel
theorem dX8_where_21 : decode cX8_where 21 = .ok (.aload_n 0, 1) := by decide +kernel
theorem dX8_where_22 : decode cX8_where 22 = .ok (.getfield 7, 3) := by decide +kernel
theorem dX8_where_25 : decode cX8_where 25 = .ok (.iconst 0, 1) := by decide +kernel
theorem dX8_where_26 : decode cX8_where 26 = .ok (.iaload, 1) := by decide +kernel
theorem dX8_where_27 : decode cX8_where 27 = .ok (.aload_n 0, 1) := by decide +kernel
theorem dX8_where_28 : decode cX8_where 28 = .ok (.getfield 67, 3) := by decide +kernel
theorem dX8_where_31 : decode cX8_where 31 = .ok (.if_icmp .ne 7, 3) := by decide +kernel
theorem dX8_where_34 : decode cX8_where 34 = .ok (.iconst 1, 1) := by decide +kernel
theorem dX8_where_35 : decode cX8_where 35 = .ok (.goto 4, 3) := by decide +kernel
theorem dX8_where_38 : decode cX8_where 38 = .ok (.iconst 0, 1) := by decide +kernel
theorem dX8_where_39 : decode cX8_where 39 = .ok (.ireturn, 1) := by decide +kernel
theorem dX8_dueOf_0 : decode cX8_dueOf 0 = .ok (.aload_n 0, 1) := by decide +kernel
theorem dX8_dueOf_1 : decode cX8_dueOf 1 = .ok (.getfield 7, 3) := by decide +kernel
theorem dX8_dueOf_4 : decode cX8_dueOf 4 = .ok (.iload_n 1, 1) := by decide +kernel
theorem dX8_dueOf_5 : decode cX8_dueOf 5 = .ok (.bipush 14, 2) := by decide +kernel
theorem dX8_dueOf_7 : decode cX8_dueOf 7 = .ok (.iadd, 1) := by decide +kernel
theorem dX8_dueOf_8 : decode cX8_dueOf 8 = .ok (.iload_n 2, 1) := by decide +kernel
theorem dX8_dueOf_9 : decode cX8_dueOf 9 = .ok (.iadd, 1) := by decide +kernel
theorem dX8_dueOf_10 : decode cX8_dueOf 10 = .ok (.iaload, 1) := by decide +kernel
theorem dX8_dueOf_11 : decode cX8_dueOf 11 = .ok (.istore_n 3, 1) := by decide +kernel
theorem dX8_dueOf_12 : decode cX8_dueOf 12 = .ok (.iload_n 3, 1) := by decide +kernel
theorem dX8_dueOf_13 : decode cX8_dueOf 13 = .ok (.iload_n 3, 1) := by decide +kernel
theorem dX8_dueOf_14 : decode cX8_dueOf 14 = .ok (.aload_n 0, 1) := by decide +kernel
theorem dX8_dueOf_15 : decode cX8_dueOf 15 = .ok (.getfield 29, 3) := by decide +kernel
theorem dX8_dueOf_18 : decode cX8_dueOf 18 = .ok (.aload_n 0, 1) := by decide +kernel
theorem dX8_dueOf_19 : decode cX8_dueOf 19 = .ok (.getfield 7, 3) := by decide +kernel
theorem dX8_dueOf_22 : decode cX8_dueOf 22 = .ok (.iload_n 1, 1) := by decide +kernel
theorem dX8_dueOf_23 : decode cX8_dueOf 23 = .ok (.iconst 5, 1) := by decide +kernel
theorem dX8_dueOf_24 : decode cX8_dueOf 24 = .ok (.iadd, 1) := by decide +kernel
theorem dX8_dueOf_25 : decode cX8_dueOf 25 = .ok (.iload_n 2, 1) := by decide +kernel
theorem dX8_dueOf_26 : decode cX8_dueOf 26 = .ok (.iadd, 1) := by decide +kernel
theorem dX8_dueOf_27 : decode cX8_dueOf 27 = .ok (.iaload, 1) := by decide +kernel
theorem dX8_dueOf_28 : decode cX8_dueOf 28 = .ok (.iaload, 1) := by decide +kernel
theorem dX8_dueOf_29 : decode cX8_dueOf 29 = .ok (.imul, 1) := by decide +kernel
theorem dX8_dueOf_30 : decode cX8_dueOf 30 = .ok (.bipush 100, 2) := by decide +kernel
theorem dX8_dueOf_32 : decode cX8_dueOf 32 = .ok (.idiv, 1) := by decide +kernel
theorem dX8_dueOf_33 : decode cX8_dueOf 33 = .ok (.iadd, 1) := by decide +kernel
theorem dX8_dueOf_34 : decode cX8_dueOf 34 = .ok (.ireturn, 1) := by decide +kernel
theorem dX8_paysOf_0 : decode cX8_paysOf 0 = .ok (.iload_n 3, 1) := by decide +kernel
theorem dX8_paysOf_1 : decode cX8_paysOf 1 = .ok (.istore 4, 2) := by decide +kernel
theorem dX8_paysOf_3 : decode cX8_paysOf 3 = .ok (.aload_n 0, 1) := by decide +kernel
theorem dX8_paysOf_4 : decode cX8_paysOf 4 = .ok (.getfield 7, 3) := by decide +kernel
theorem dX8_paysOf_7 : decode cX8_paysOf 7 = .ok (.iload_n 1, 1) := by decide +kernel
theorem dX8_paysOf_8 : decode cX8_paysOf 8 = .ok (.iconst 4, 1) := by decide +kernel
theorem dX8_paysOf_9 : decode cX8_paysOf 9 = .ok (.iadd, 1) := by decide +kernel
theorem dX8_paysOf_10 : decode cX8_paysOf 10 = .ok (.iaload, 1) := by decide +kernel
theorem dX8_paysOf_11 : decode cX8_paysOf 11 = .ok (.iconst 1, 1) := by decide +kernel
theorem dX8_paysOf_12 : decode cX8_paysOf 12 = .ok (.isub, 1) := by decide +kernel
theorem dX8_paysOf_13 : decode cX8_paysOf 13 = .ok (.istore 5, 2) := by decide +kernel
theorem dX8_paysOf_15 : decode cX8_paysOf 15 = .ok (.iload 5, 2) := by decide +kernel
theorem dX8_paysOf_17 : decode cX8_paysOf 17 = .ok (.ifCond .lt 67, 3) := by decide +kernel
theorem dX8_paysOf_20 : decode cX8_paysOf 20 = .ok (.aload_n 0, 1) := by decide +kernel
theorem dX8_paysOf_21 : decode cX8_paysOf 21 = .ok (.getfield 7, 3) := by decide +kernel
theorem dX8_paysOf_24 : decode cX8_paysOf 24 = .ok (.iload_n 1, 1) := by decide +kernel
theorem dX8_paysOf_25 : decode cX8_paysOf 25 = .ok (.bipush 23, 2) := by decide +kernel
theorem dX8_paysOf_27 : decode cX8_paysOf 27 = .ok (.iadd, 1) := by decide +kernel
theorem dX8_paysOf_28 : decode cX8_paysOf 28 = .ok (.iload 5, 2) := by decide +kernel
theorem dX8_paysOf_30 : decode cX8_paysOf 30 = .ok (.iadd, 1) := by decide +kernel
theorem dX8_paysOf_31 : decode cX8_paysOf 31 = .ok (.iaload, 1) := by decide +kernel
theorem dX8_paysOf_32 : decode cX8_paysOf 32 = .ok (.iload_n 2, 1) := by decide +kernel
theorem dX8_paysOf_33 : decode cX8_paysOf 33 = .ok (.if_icmp .ne 45, 3) := by decide +kernel
theorem dX8_paysOf_36 : decode cX8_paysOf 36 = .ok (.aload_n 0, 1) := by decide +kernel
theorem dX8_paysOf_37 : decode cX8_paysOf 37 = .ok (.iload_n 1, 1) := by decide +kernel
theorem dX8_paysOf_38 : decode cX8_paysOf 38 = .ok (.iload 5, 2) := by decide +kernel
theorem dX8_paysOf_40 : decode cX8_paysOf 40 = .ok (.invokevirtual 156, 3) := by decide +kernel
theorem dX8_paysOf_43 : decode cX8_paysOf 43 = .ok (.istore 6, 2) := by decide +kernel
theorem dX8_paysOf_45 : decode cX8_paysOf 45 = .ok (.aload_n 0, 1) := by decide +kernel
theorem dX8_paysOf_46 : decode cX8_paysOf 46 = .ok (.getfield 48, 3) := by decide +kernel
theorem dX8_paysOf_49 : decode cX8_paysOf 49 = .ok (.iload 5, 2) := by decide +kernel
theorem dX8_paysOf_51 : decode cX8_paysOf 51 = .ok (.iload 6, 2) := by decide +kernel
theorem dX8_paysOf_53 : decode cX8_paysOf 53 = .ok (.iload 4, 2) := by decide +kernel
theorem dX8_paysOf_55 : decode cX8_paysOf 55 = .ok (.if_icmp .ge 8, 3) := by decide +kernel
theorem dX8_paysOf_58 : decode cX8_paysOf 58 = .ok (.iload 6, 2) := by decide +kernel
theorem dX8_paysOf_60 : decode cX8_paysOf 60 = .ok (.goto 5, 3) := by decide +kernel
theorem dX8_paysOf_63 : decode cX8_paysOf 63 = .ok (.iload 4, 2) := by decide +kernel
theorem dX8_paysOf_65 : decode cX8_paysOf 65 = .ok (.iastore, 1) := by decide +kernel
theorem dX8_paysOf_66 : decode cX8_paysOf 66 = .ok (.iload 4, 2) := by decide +kernel
theorem dX8_paysOf_68 : decode cX8_paysOf 68 = .ok (.aload_n 0, 1) := by decide +kernel
theorem dX8_paysOf_69 : decode cX8_paysOf 69 = .ok (.getfield 48, 3) := by decide +kernel
theorem dX8_paysOf_72 : decode cX8_paysOf 72 = .ok (.iload 5, 2) := by decide +kernel
theorem dX8_paysOf_74 : decode cX8_paysOf 74 = .ok (.iaload, 1) := by decide +kernel
theorem dX8_paysOf_75 : decode cX8_paysOf 75 = .ok (.isub, 1) := by decide +kernel
theorem dX8_paysOf_76 : decode cX8_paysOf 76 = .ok (.istore 4, 2) := by decide +kernel
theorem dX8_paysOf_78 : decode cX8_paysOf 78 = .ok (.iinc 5 (-1), 3) := by decide +kernel
theorem dX8_paysOf_81 : decode cX8_paysOf 81 = .ok (.goto (-66), 3) := by decide +kernel
theorem dX8_paysOf_84 : decode cX8_paysOf 84 = .ok (.iload 4, 2) := by decide +kernel
theorem dX8_paysOf_86 : decode cX8_paysOf 86 = .ok (.ireturn, 1) := by decide +kernel
theorem dX8_paysHome_0 : decode cX8_paysHome 0 = .ok (.aload_n 0, 1) := by decide +kernel
theorem dX8_paysHome_1 : decode cX8_paysHome 1 = .ok (.iload_n 1, 1) := by decide +kernel
theorem dX8_paysHome_2 : decode cX8_paysHome 2 = .ok (.iconst 1, 1) := by decide +kernel
theorem dX8_paysHome_3 : decode cX8_paysHome 3 = .ok (.aload_n 0, 1) := by decide +kernel
theorem dX8_paysHome_4 : decode cX8_paysHome 4 = .ok (.getfield 144, 3) := by decide +kernel
theorem dX8_paysHome_7 : decode cX8_paysHome 7 = .ok (.invokevirtual 160, 3) := by decide +kernel
theorem dX8_paysHome_10 : decode cX8_paysHome 10 = .ok (.istore_n 3, 1) := by decide +kernel
theorem dX8_paysHome_11 : decode cX8_paysHome 11 = .ok (.aload_n 0, 1) := by decide +kernel
theorem dX8_paysHome_12 : decode cX8_paysHome 12 = .ok (.aload_n 0, 1) := by decide +kernel
theorem dX8_paysHome_13 : decode cX8_paysHome 13 = .ok (.iload_n 1, 1) := by decide +kernel
theorem dX8_paysHome_14 : decode cX8_paysHome 14 = .ok (.iconst 0, 1) := by decide +kernel
theorem dX8_paysHome_15 : decode cX8_paysHome 15 = .ok (.iload_n 2, 1) := by decide +kernel
theorem dX8_paysHome_16 : decode cX8_paysHome 16 = .ok (.aload_n 0, 1) := by decide +kernel
theorem dX8_paysHome_17 : decode cX8_paysHome 17 = .ok (.getfield 7, 3) := by decide +kernel
theorem dX8_paysHome_20 : decode cX8_paysHome 20 = .ok (.iload_n 1, 1) := by decide +kernel
theorem dX8_paysHome_21 : decode cX8_paysHome 21 = .ok (.iconst 3, 1) := by decide +kernel
theorem dX8_paysHome_22 : decode cX8_paysHome 22 = .ok (.iadd, 1) := by decide +kernel
theorem dX8_paysHome_23 : decode cX8_paysHome 23 = .ok (.iaload, 1) := by decide +kernel
theorem dX8_paysHome_24 : decode cX8_paysHome 24 = .ok (.iadd, 1) := by decide +kernel
theorem dX8_paysHome_25 : decode cX8_paysHome 25 = .ok (.iload_n 3, 1) := by decide +kernel
theorem dX8_paysHome_26 : decode cX8_paysHome 26 = .ok (.iadd, 1) := by decide +kernel
theorem dX8_paysHome_27 : decode cX8_paysHome 27 = .ok (.invokevirtual 160, 3) := by decide +kernel
theorem dX8_paysHome_30 : decode cX8_paysHome 30 = .ok (.putfield 164, 3) := by decide +kernel
theorem dX8_paysHome_33 : decode cX8_paysHome 33 = .ok (.return_, 1) := by decide +kernel
theorem dX8_owed_0 : decode cX8_owed 0 = .ok (.iconst 0, 1) := by decide +kernel
theorem dX8_owed_1 : decode cX8_owed 1 = .ok (.istore_n 1, 1) := by decide +kernel
theorem dX8_owed_2 : decode cX8_owed 2 = .ok (.iconst 0, 1) := by decide +kernel
theorem dX8_owed_3 : decode cX8_owed 3 = .ok (.istore_n 2, 1) := by decide +kernel
theorem dX8_owed_4 : decode cX8_owed 4 = .ok (.iload_n 2, 1) := by decide +kernel
theorem dX8_owed_5 : decode cX8_owed 5 = .ok (.aload_n 0, 1) := by decide +kernel
theorem dX8_owed_6 : decode cX8_owed 6 = .ok (.getfield 7, 3) := by decide +kernel
theorem dX8_owed_9 : decode cX8_owed 9 = .ok (.iconst 4, 1) := by decide +kernel
theorem dX8_owed_10 : decode cX8_owed 10 = .ok (.iaload, 1) := by decide +kernel
theorem dX8_owed_11 : decode cX8_owed 11 = .ok (.if_icmp .ge 18, 3) := by decide +kernel
theorem dX8_owed_14 : decode cX8_owed 14 = .ok (.iload_n 1, 1) := by decide +kernel
theorem dX8_owed_15 : decode cX8_owed 15 = .ok (.aload_n 0, 1) := by decide +kernel
theorem dX8_owed_16 : decode cX8_owed 16 = .ok (.iconst 0, 1) := by decide +kernel
theorem dX8_owed_17 : decode cX8_owed 17 = .ok (.iload_n 2, 1) := by decide +kernel
theorem dX8_owed_18 : decode cX8_owed 18 = .ok (.invokevirtual 156, 3) := by decide +kernel
theorem dX8_owed_21 : decode cX8_owed 21 = .ok (.iadd, 1) := by decide +kernel
theorem dX8_owed_22 : decode cX8_owed 22 = .ok (.istore_n 1, 1) := by decide +kernel
theorem dX8_owed_23 : decode cX8_owed 23 = .ok (.iinc 2 1, 3) := by decide +kernel
theorem dX8_owed_26 : decode cX8_owed 26 = .ok (.goto (-22), 3) := by decide +kernel
theorem dX8_owed_29 : decode cX8_owed 29 = .ok (.iload_n 1, 1) := by decide +kernel
theorem dX8_owed_30 : decode cX8_owed 30 = .ok (.ireturn, 1) := by decide +kernel
theorem dX8_leftNow_0 : decode cX8_leftNow 0 = .ok (.aload_n 0, 1) := by decide +kernel
theorem dX8_leftNow_1 : decode cX8_leftNow 1 = .ok (.iconst 0, 1) := by decide +kernel
theorem dX8_leftNow_2 : decode cX8_leftNow 2 = .ok (.aload_n 0, 1) := by decide +kernel
theorem dX8_leftNow_3 : decode cX8_leftNow 3 = .ok (.getfield 141, 3) := by decide +kernel
theorem dX8_leftNow_6 : decode cX8_leftNow 6 = .ok (.invokevirtual 167, 3) := by decide +kernel
theorem dX8_leftNow_9 : decode cX8_leftNow 9 = .ok (.aload_n 0, 1) := by decide +kernel
theorem dX8_leftNow_10 : decode cX8_leftNow 10 = .ok (.getfield 7, 3) := by decide +kernel
theorem dX8_leftNow_13 : decode cX8_leftNow 13 = .ok (.iconst 1, 1) := by decide +kernel
theorem dX8_leftNow_14 : decode cX8_leftNow 14 = .ok (.iaload, 1) := by decide +kernel
theorem dX8_leftNow_15 : decode cX8_leftNow 15 = .ok (.iconst 1, 1) := by decide +kernel
theorem dX8_leftNow_16 : decode cX8_leftNow 16 = .ok (.if_icmp .ne 7, 3) := by decide +kernel
theorem dX8_leftNow_19 : decode cX8_leftNow 19 = .ok (.iconst 0, 1) := by decide +kernel
theorem dX8_leftNow_20 : decode cX8_leftNow 20 = .ok (.goto 7, 3) := by decide +kernel
theorem dX8_leftNow_23 : decode cX8_leftNow 23 = .ok (.aload_n 0, 1) := by decide +kernel
theorem dX8_leftNow_24 : decode cX8_leftNow 24 = .ok (.getfield 164, 3) := by decide +kernel
theorem dX8_leftNow_27 : decode cX8_leftNow 27 = .ok (.ireturn, 1) := by decide +kernel
theorem dX8_told_0 : decode cX8_told 0 = .ok (.iload_n 1, 1) := by decide +kernel
theorem dX8_told_1 : decode cX8_told 1 = .ok (.tableswitch 158 0 14 #[75, 80, 85, 92, 99, 104, 109, 116, 121, 128, 133, 138, 143, 148, 153], 75) := by decide +kernel
theorem dX8_told_76 : decode cX8_told 76 = .ok (.aload_n 0, 1) := by decide +kernel
theorem dX8_told_77 : decode cX8_told 77 = .ok (.getfield 141, 3) := by decide +kernel
theorem dX8_told_80 : decode cX8_told 80 = .ok (.ireturn, 1) := by decide +kernel
theorem dX8_told_81 : decode cX8_told 81 = .ok (.aload_n 0, 1) := by decide +kernel
theorem dX8_told_82 : decode cX8_told 82 = .ok (.getfield 144, 3) := by decide +kernel
theorem dX8_told_85 : decode cX8_told 85 = .ok (.ireturn, 1) := by decide +kernel
theorem dX8_told_86 : decode cX8_told 86 = .ok (.aload_n 0, 1) := by decide +kernel
theorem dX8_told_87 : decode cX8_told 87 = .ok (.getfield 7, 3) := by decide +kernel
theorem dX8_told_90 : decode cX8_told 90 = .ok (.iconst 2, 1) := by decide +kernel
theorem dX8_told_91 : decode cX8_told 91 = .ok (.iaload, 1) := by decide +kernel
theorem dX8_told_92 : decode cX8_told 92 = .ok (.ireturn, 1) := by decide +kernel
theorem dX8_told_93 : decode cX8_told 93 = .ok (.aload_n 0, 1) := by decide +kernel
theorem dX8_told_94 : decode cX8_told 94 = .ok (.getfield 7, 3) := by decide +kernel
theorem dX8_told_97 : decode cX8_told 97 = .ok (.iconst 3, 1) := by decide +kernel
theorem dX8_told_98 : decode cX8_told 98 = .ok (.iaload, 1) := by decide +kernel
theorem dX8_told_99 : decode cX8_told 99 = .ok (.ireturn, 1) := by decide +kernel
theorem dX8_told_100 : decode cX8_told 100 = .ok (.aload_n 0, 1) := by decide +kernel
theorem dX8_told_101 : decode cX8_told 101 = .ok (.getfield 67, 3) := by decide +kernel
theorem dX8_told_104 : decode cX8_told 104 = .ok (.ireturn, 1) := by decide +kernel
theorem dX8_told_105 : decode cX8_told 105 = .ok (.aload_n 0, 1) := by decide +kernel
theorem dX8_told_106 : decode cX8_told 106 = .ok (.getfield 74, 3) := by decide +kernel
theorem dX8_told_109 : decode cX8_told 109 = .ok (.ireturn, 1) := by decide +kernel
theorem dX8_told_110 : decode cX8_told 110 = .ok (.aload_n 0, 1) := by decide +kernel
theorem dX8_told_111 : decode cX8_told 111 = .ok (.getfield 7, 3) := by decide +kernel
theorem dX8_told_114 : decode cX8_told 114 = .ok (.iconst 4, 1) := by decide +kernel
theorem dX8_told_115 : decode cX8_told 115 = .ok (.iaload, 1) := by decide +kernel
theorem dX8_told_116 : decode cX8_told 116 = .ok (.ireturn, 1) := by decide +kernel
theorem dX8_told_117 : decode cX8_told 117 = .ok (.aload_n 0, 1) := by decide +kernel
theorem dX8_told_118 : decode cX8_told 118 = .ok (.getfield 80, 3) := by decide +kernel
theorem dX8_told_121 : decode cX8_told 121 = .ok (.ireturn, 1) := by decide +kernel
theorem dX8_told_122 : decode cX8_told 122 = .ok (.aload_n 0, 1) := by decide +kernel
theorem dX8_told_123 : decode cX8_told 123 = .ok (.getfield 7, 3) := by decide +kernel
theorem dX8_told_126 : decode cX8_told 126 = .ok (.iconst 0, 1) := by decide +kernel
theorem dX8_told_127 : decode cX8_told 127 = .ok (.iaload, 1) := by decide +kernel
theorem dX8_told_128 : decode cX8_told 128 = .ok (.ireturn, 1) := by decide +kernel
theorem dX8_told_129 : decode cX8_told 129 = .ok (.aload_n 0, 1) := by decide +kernel
theorem dX8_told_130 : decode cX8_told 130 = .ok (.invokevirtual 171, 3) := by decide +kernel
theorem dX8_told_133 : decode cX8_told 133 = .ok (.ireturn, 1) := by decide +kernel
theorem dX8_told_134 : decode cX8_told 134 = .ok (.aload_n 0, 1) := by decide +kernel
theorem dX8_told_135 : decode cX8_told 135 = .ok (.invokevirtual 174, 3) := by decide +kernel
theorem dX8_told_138 : decode cX8_told 138 = .ok (.ireturn, 1) := by decide +kernel
theorem dX8_told_139 : decode cX8_told 139 = .ok (.aload_n 0, 1) := by decide +kernel
theorem dX8_told_140 : decode cX8_told 140 = .ok (.invokevirtual 177, 3) := by decide +kernel
theorem dX8_told_143 : decode cX8_told 143 = .ok (.ireturn, 1) := by decide +kernel
theorem dX8_told_144 : decode cX8_told 144 = .ok (.aload_n 0, 1) := by decide +kernel
theorem dX8_told_145 : decode cX8_told 145 = .ok (.getfield 147, 3) := by decide +kernel
theorem dX8_told_148 : decode cX8_told 148 = .ok (.ireturn, 1) := by decide +kernel
theorem dX8_told_149 : decode cX8_told 149 = .ok (.aload_n 0, 1) := by decide +kernel
theorem dX8_told_150 : decode cX8_told 150 = .ok (.getfield 150, 3) := by decide +kernel
theorem dX8_told_153 : decode cX8_told 153 = .ok (.ireturn, 1) := by decide +kernel
theorem dX8_told_154 : decode cX8_told 154 = .ok (.aload_n 0, 1) := by decide +kernel
theorem dX8_told_155 : decode cX8_told 155 = .ok (.getfield 153, 3) := by decide +kernel
theorem dX8_told_158 : decode cX8_told 158 = .ok (.ireturn, 1) := by decide +kernel
theorem dX8_told_159 : decode cX8_told 159 = .ok (.ldc 79, 2) := by decide +kernel
theorem dX8_told_161 : decode cX8_told 161 = .ok (.ireturn, 1) := by decide +kernel
theorem dX8_oddsOf_0 : decode cX8_oddsOf 0 = .ok (.aload_n 0, 1) := by decide +kernel
theorem dX8_oddsOf_1 : decode cX8_oddsOf 1 = .ok (.getfield 17, 3) := by decide +kernel
theorem dX8_oddsOf_4 : decode cX8_oddsOf 4 = .ok (.iload_n 1, 1) := by decide +kernel
theorem dX8_oddsOf_5 : decode cX8_oddsOf 5 = .ok (.iaload, 1) := by decide +kernel
theorem dX8_oddsOf_6 : decode cX8_oddsOf 6 = .ok (.aload_n 0, 1) := by decide +kernel
theorem dX8_oddsOf_7 : decode cX8_oddsOf 7 = .ok (.getfield 20, 3) := by decide +kernel
theorem dX8_oddsOf_10 : decode cX8_oddsOf 10 = .ok (.iload_n 1, 1) := by decide +kernel
theorem dX8_oddsOf_11 : decode cX8_oddsOf 11 = .ok (.iaload, 1) := by decide +kernel
theorem dX8_oddsOf_12 : decode cX8_oddsOf 12 = .ok (.bipush 9, 2) := by decide +kernel
theorem dX8_oddsOf_14 : decode cX8_oddsOf 14 = .ok (.iload_n 2, 1) := by decide +kernel
theorem dX8_oddsOf_15 : decode cX8_oddsOf 15 = .ok (.isub, 1) := by decide +kernel
theorem dX8_oddsOf_16 : decode cX8_oddsOf 16 = .ok (.imul, 1) := by decide +kernel
theorem dX8_oddsOf_17 : decode cX8_oddsOf 17 = .ok (.iadd, 1) := by decide +kernel
theorem dX8_oddsOf_18 : decode cX8_oddsOf 18 = .ok (.istore_n 3, 1) := by decide +kernel
theorem dX8_oddsOf_19 : decode cX8_oddsOf 19 = .ok (.iload_n 3, 1) := by decide +kernel
theorem dX8_oddsOf_20 : decode cX8_oddsOf 20 = .ok (.bipush 100, 2) := by decide +kernel
theorem dX8_oddsOf_22 : decode cX8_oddsOf 22 = .ok (.if_icmp .le 8, 3) := by decide +kernel
theorem dX8_oddsOf_25 : decode cX8_oddsOf 25 = .ok (.bipush 100, 2) := by decide +kernel
theorem dX8_oddsOf_27 : decode cX8_oddsOf 27 = .ok (.goto 4, 3) := by decide +kernel
theorem dX8_oddsOf_30 : decode cX8_oddsOf 30 = .ok (.iload_n 3, 1) := by decide +kernel
theorem dX8_oddsOf_31 : decode cX8_oddsOf 31 = .ok (.ireturn, 1) := by decide +kernel
theorem dX8_leg_0 : decode cX8_leg 0 = .ok (.aload_n 0, 1) := by decide +kernel
theorem dX8_leg_1 : decode cX8_leg 1 = .ok (.iload_n 1, 1) := by decide +kernel
theorem dX8_leg_2 : decode cX8_leg 2 = .ok (.invokevirtual 180, 3) := by decide +kernel
theorem dX8_leg_5 : decode cX8_leg 5 = .ok (.ifCond .ne 6, 3) := by decide +kernel
theorem dX8_leg_8 : decode cX8_leg 8 = .ok (.ldc 183, 2) := by decide +kernel
theorem dX8_leg_10 : decode cX8_leg 10 = .ok (.ireturn, 1) := by decide +kernel
theorem dX8_leg_11 : decode cX8_leg 11 = .ok (.iload_n 2, 1) := by decide +kernel
theorem dX8_leg_12 : decode cX8_leg 12 = .ok (.tableswitch 65 0 3 #[32, 39, 46, 53], 32) := by decide +kernel
theorem dX8_leg_44 : decode cX8_leg 44 = .ok (.aload_n 0, 1) := by decide +kernel
theorem dX8_leg_45 : decode cX8_leg 45 = .ok (.getfield 17, 3) := by decide +kernel
theorem dX8_leg_48 : decode cX8_leg 48 = .ok (.iload_n 1, 1) := by decide +kernel
theorem dX8_leg_49 : decode cX8_leg 49 = .ok (.iaload, 1) := by decide +kernel
theorem dX8_leg_50 : decode cX8_leg 50 = .ok (.ireturn, 1) := by decide +kernel
theorem dX8_leg_51 : decode cX8_leg 51 = .ok (.aload_n 0, 1) := by decide +kernel
theorem dX8_leg_52 : decode cX8_leg 52 = .ok (.getfield 20, 3) := by decide +kernel
theorem dX8_leg_55 : decode cX8_leg 55 = .ok (.iload_n 1, 1) := by decide +kernel
theorem dX8_leg_56 : decode cX8_leg 56 = .ok (.iaload, 1) := by decide +kernel
theorem dX8_leg_57 : decode cX8_leg 57 = .ok (.ireturn, 1) := by decide +kernel
theorem dX8_leg_58 : decode cX8_leg 58 = .ok (.aload_n 0, 1) := by decide +kernel
theorem dX8_leg_59 : decode cX8_leg 59 = .ok (.getfield 23, 3) := by decide +kernel
theorem dX8_leg_62 : decode cX8_leg 62 = .ok (.iload_n 1, 1) := by decide +kernel
theorem dX8_leg_63 : decode cX8_leg 63 = .ok (.iaload, 1) := by decide +kernel
theorem dX8_leg_64 : decode cX8_leg 64 = .ok (.ireturn, 1) := by decide +kernel
theorem dX8_leg_65 : decode cX8_leg 65 = .ok (.aload_n 0, 1) := by decide +kernel
theorem dX8_leg_66 : decode cX8_leg 66 = .ok (.iload_n 1, 1) := by decide +kernel
theorem dX8_leg_67 : decode cX8_leg 67 = .ok (.aload_n 0, 1) := by decide +kernel
theorem dX8_leg_68 : decode cX8_leg 68 = .ok (.getfield 7, 3) := by decide +kernel
theorem dX8_leg_71 : decode cX8_leg 71 = .ok (.iconst 2, 1) := by decide +kernel
theorem dX8_leg_72 : decode cX8_leg 72 = .ok (.iaload, 1) := by decide +kernel
theorem dX8_leg_73 : decode cX8_leg 73 = .ok (.invokevirtual 184, 3) := by decide +kernel
theorem dX8_leg_76 : decode cX8_leg 76 = .ok (.ireturn, 1) := by decide +kernel
theorem dX8_leg_77 : decode cX8_leg 77 = .ok (.ldc 79, 2) := by decide +kernel
theorem dX8_leg_79 : decode cX8_leg 79 = .ok (.ireturn, 1) := by decide +kernel
theorem dX8_yetOf_0 : decode cX8_yetOf 0 = .ok (.aload_n 0, 1) := by decide +kernel
theorem dX8_yetOf_1 : decode cX8_yetOf 1 = .ok (.getfield 26, 3) := by decide +kernel
theorem dX8_yetOf_4 : decode cX8_yetOf 4 = .ok (.iload_n 1, 1) := by decide +kernel
theorem dX8_yetOf_5 : decode cX8_yetOf 5 = .ok (.iaload, 1) := by decide +kernel
theorem dX8_yetOf_6 : decode cX8_yetOf 6 = .ok (.istore_n 2, 1) := by decide +kernel
theorem dX8_yetOf_7 : decode cX8_yetOf 7 = .ok (.iconst 0, 1) := by decide +kernel
theorem dX8_yetOf_8 : decode cX8_yetOf 8 = .ok (.istore_n 3, 1) := by decide +kernel
theorem dX8_yetOf_9 : decode cX8_yetOf 9 = .ok (.iload_n 3, 1) := by decide +kernel
theorem dX8_yetOf_10 : decode cX8_yetOf 10 = .ok (.aload_n 0, 1) := by decide +kernel
theorem dX8_yetOf_11 : decode cX8_yetOf 11 = .ok (.getfield 7, 3) := by decide +kernel
theorem dX8_yetOf_14 : decode cX8_yetOf 14 = .ok (.iconst 4, 1) := by decide +kernel
theorem dX8_yetOf_15 : decode cX8_yetOf 15 = .ok (.iaload, 1) := by decide +kernel
theorem dX8_yetOf_16 : decode cX8_yetOf 16 = .ok (.if_icmp .ge 37, 3) := by decide +kernel
theorem dX8_yetOf_19 : decode cX8_yetOf 19 = .ok (.iload_n 2, 1) := by decide +kernel
theorem dX8_yetOf_20 : decode cX8_yetOf 20 = .ok (.aload_n 0, 1) := by decide +kernel
theorem dX8_yetOf_21 : decode cX8_yetOf 21 = .ok (.getfield 7, 3) := by decide +kernel
theorem dX8_yetOf_24 : decode cX8_yetOf 24 = .ok (.iconst 5, 1) := by decide +kernel
theorem dX8_yetOf_25 : decode cX8_yetOf 25 = .ok (.iload_n 3, 1) := by decide +kernel
theorem dX8_yetOf_26 : decode cX8_yetOf 26 = .ok (.iadd, 1) := by decide +kernel
theorem dX8_yetOf_27 : decode cX8_yetOf 27 = .ok (.iaload, 1) := by decide +kernel
theorem dX8_yetOf_28 : decode cX8_yetOf 28 = .ok (.iload_n 1, 1) := by decide +kernel
theorem dX8_yetOf_29 : decode cX8_yetOf 29 = .ok (.if_icmp .ne 15, 3) := by decide +kernel
theorem dX8_yetOf_32 : decode cX8_yetOf 32 = .ok (.aload_n 0, 1) := by decide +kernel
theorem dX8_yetOf_33 : decode cX8_yetOf 33 = .ok (.getfield 7, 3) := by decide +kernel
theorem dX8_yetOf_36 : decode cX8_yetOf 36 = .ok (.bipush 14, 2) := by decide +kernel
theorem dX8_yetOf_38 : decode cX8_yetOf 38 = .ok (.iload_n 3, 1) := by decide +kernel
theorem dX8_yetOf_39 : decode cX8_yetOf 39 = .ok (.iadd, 1) := by decide +kernel
theorem dX8_yetOf_40 : decode cX8_yetOf 40 = .ok (.iaload, 1) := by decide +kernel
theorem dX8_yetOf_41 : decode cX8_yetOf 41 = .ok (.goto 4, 3) := by decide +kernel
theorem dX8_yetOf_44 : decode cX8_yetOf 44 = .ok (.iconst 0, 1) := by decide +kernel
theorem dX8_yetOf_45 : decode cX8_yetOf 45 = .ok (.isub, 1) := by decide +kernel
theorem dX8_yetOf_46 : decode cX8_yetOf 46 = .ok (.istore_n 2, 1) := by decide +kernel
theorem dX8_yetOf_47 : decode cX8_yetOf 47 = .ok (.iinc 3 1, 3) := by decide +kernel
theorem dX8_yetOf_50 : decode cX8_yetOf 50 = .ok (.goto (-41), 3) := by decide +kernel
theorem dX8_yetOf_53 : decode cX8_yetOf 53 = .ok (.iload_n 2, 1) := by decide +kernel
theorem dX8_yetOf_54 : decode cX8_yetOf 54 = .ok (.ireturn, 1) := by decide +kernel
theorem dX8_lender_0 : decode cX8_lender 0 = .ok (.aload_n 0, 1) := by decide +kernel
theorem dX8_lender_1 : decode cX8_lender 1 = .ok (.iload_n 1, 1) := by decide +kernel
theorem dX8_lender_2 : decode cX8_lender 2 = .ok (.invokevirtual 187, 3) := by decide +kernel
theorem dX8_lender_5 : decode cX8_lender 5 = .ok (.ifCond .ne 6, 3) := by decide +kernel
theorem dX8_lender_8 : decode cX8_lender 8 = .ok (.ldc 183, 2) := by decide +kernel
theorem dX8_lender_10 : decode cX8_lender 10 = .ok (.ireturn, 1) := by decide +kernel
theorem dX8_lender_11 : decode cX8_lender 11 = .ok (.iload_n 2, 1) := by decide +kernel
theorem dX8_lender_12 : decode cX8_lender 12 = .ok (.ifCond .ne 12, 3) := by decide +kernel
theorem dX8_lender_15 : decode cX8_lender 15 = .ok (.aload_n 0, 1) := by decide +kernel
theorem dX8_lender_16 : decode cX8_lender 16 = .ok (.getfield 26, 3) := by decide +kernel
theorem dX8_lender_19 : decode cX8_lender 19 = .ok (.iload_n 1, 1) := by decide +kernel
theorem dX8_lender_20 : decode cX8_lender 20 = .ok (.iaload, 1) := by decide +kernel
theorem dX8_lender_21 : decode cX8_lender 21 = .ok (.goto 32, 3) := by decide +kernel
theorem dX8_lender_24 : decode cX8_lender 24 = .ok (.iload_n 2, 1) := by decide +kernel
theorem dX8_lender_25 : decode cX8_lender 25 = .ok (.iconst 1, 1) := by decide +kernel
theorem dX8_lender_26 : decode cX8_lender 26 = .ok (.if_icmp .ne 12, 3) := by decide +kernel
theorem dX8_lender_29 : decode cX8_lender 29 = .ok (.aload_n 0, 1) := by decide +kernel
theorem dX8_lender_30 : decode cX8_lender 30 = .ok (.getfield 29, 3) := by decide +kernel
theorem dX8_lender_33 : decode cX8_lender 33 = .ok (.iload_n 1, 1) := by decide +kernel
theorem dX8_lender_34 : decode cX8_lender 34 = .ok (.iaload, 1) := by decide +kernel
theorem dX8_lender_35 : decode cX8_lender 35 = .ok (.goto 18, 3) := by decide +kernel
theorem dX8_lender_38 : decode cX8_lender 38 = .ok (.iload_n 2, 1) := by decide +kernel
theorem dX8_lender_39 : decode cX8_lender 39 = .ok (.iconst 2, 1) := by decide +kernel
theorem dX8_lender_40 : decode cX8_lender 40 = .ok (.if_icmp .ne 11, 3) := by decide +kernel
theorem dX8_lender_43 : decode cX8_lender 43 = .ok (.aload_n 0, 1) := by decide +kernel
theorem dX8_lender_44 : decode cX8_lender 44 = .ok (.iload_n 1, 1) := by decide +kernel
theorem dX8_lender_45 : decode cX8_lender 45 = .ok (.invokevirtual 190, 3) := by decide +kernel
theorem dX8_lender_48 : decode cX8_lender 48 = .ok (.goto 5, 3) := by decide +kernel
theorem dX8_lender_51 : decode cX8_lender 51 = .ok (.ldc 79, 2) := by decide +kernel
theorem dX8_lender_53 : decode cX8_lender 53 = .ok (.ireturn, 1) := by decide +kernel
theorem dX8_rankOf_0 : decode cX8_rankOf 0 = .ok (.iconst 0, 1) := by decide +kernel
theorem dX8_rankOf_1 : decode cX8_rankOf 1 = .ok (.istore_n 2, 1) := by decide +kernel
theorem dX8_rankOf_2 : decode cX8_rankOf 2 = .ok (.iconst 0, 1) := by decide +kernel
theorem dX8_rankOf_3 : decode cX8_rankOf 3 = .ok (.istore_n 3, 1) := by decide +kernel
theorem dX8_rankOf_4 : decode cX8_rankOf 4 = .ok (.iload_n 3, 1) := by decide +kernel
theorem dX8_rankOf_5 : decode cX8_rankOf 5 = .ok (.aload_n 0, 1) := by decide +kernel
theorem dX8_rankOf_6 : decode cX8_rankOf 6 = .ok (.getfield 7, 3) := by decide +kernel
theorem dX8_rankOf_9 : decode cX8_rankOf 9 = .ok (.iconst 4, 1) := by decide +kernel
theorem dX8_rankOf_10 : decode cX8_rankOf 10 = .ok (.iaload, 1) := by decide +kernel
theorem dX8_rankOf_11 : decode cX8_rankOf 11 = .ok (.if_icmp .ge 76, 3) := by decide +kernel
theorem dX8_rankOf_14 : decode cX8_rankOf 14 = .ok (.aload_n 0, 1) := by decide +kernel
theorem dX8_rankOf_15 : decode cX8_rankOf 15 = .ok (.getfield 7, 3) := by decide +kernel
theorem dX8_rankOf_18 : decode cX8_rankOf 18 = .ok (.bipush 23, 2) := by decide +kernel
theorem dX8_rankOf_20 : decode cX8_rankOf 20 = .ok (.iload_n 3, 1) := by decide +kernel
theorem dX8_rankOf_21 : decode cX8_rankOf 21 = .ok (.iadd, 1) := by decide +kernel
theorem dX8_rankOf_22 : decode cX8_rankOf 22 = .ok (.iaload, 1) := by decide +kernel
theorem dX8_rankOf_23 : decode cX8_rankOf 23 = .ok (.aload_n 0, 1) := by decide +kernel
theorem dX8_rankOf_24 : decode cX8_rankOf 24 = .ok (.getfield 7, 3) := by decide +kernel
theorem dX8_rankOf_27 : decode cX8_rankOf 27 = .ok (.bipush 23, 2) := by decide +kernel
theorem dX8_rankOf_29 : decode cX8_rankOf 29 = .ok (.iload_n 1, 1) := by decide +kernel
theorem dX8_rankOf_30 : decode cX8_rankOf 30 = .ok (.iadd, 1) := by decide +kernel
theorem dX8_rankOf_31 : decode cX8_rankOf 31 = .ok (.iaload, 1) := by decide +kernel
theorem dX8_rankOf_32 : decode cX8_rankOf 32 = .ok (.if_icmp .ne 16, 3) := by decide +kernel
theorem dX8_rankOf_35 : decode cX8_rankOf 35 = .ok (.iload_n 3, 1) := by decide +kernel
theorem dX8_rankOf_36 : decode cX8_rankOf 36 = .ok (.iload_n 1, 1) := by decide +kernel
theorem dX8_rankOf_37 : decode cX8_rankOf 37 = .ok (.if_icmp .le 7, 3) := by decide +kernel
theorem dX8_rankOf_40 : decode cX8_rankOf 40 = .ok (.iconst 1, 1) := by decide +kernel
theorem dX8_rankOf_41 : decode cX8_rankOf 41 = .ok (.goto 25, 3) := by decide +kernel
theorem dX8_rankOf_44 : decode cX8_rankOf 44 = .ok (.iconst 0, 1) := by decide +kernel
theorem dX8_rankOf_45 : decode cX8_rankOf 45 = .ok (.goto 21, 3) := by decide +kernel
theorem dX8_rankOf_48 : decode cX8_rankOf 48 = .ok (.aload_n 0, 1) := by decide +kernel
theorem dX8_rankOf_49 : decode cX8_rankOf 49 = .ok (.getfield 7, 3) := by decide +kernel
theorem dX8_rankOf_52 : decode cX8_rankOf 52 = .ok (.bipush 23, 2) := by decide +kernel
theorem dX8_rankOf_54 : decode cX8_rankOf 54 = .ok (.iload_n 3, 1) := by decide +kernel
theorem dX8_rankOf_55 : decode cX8_rankOf 55 = .ok (.iadd, 1) := by decide +kernel
theorem dX8_rankOf_56 : decode cX8_rankOf 56 = .ok (.iaload, 1) := by decide +kernel
theorem dX8_rankOf_57 : decode cX8_rankOf 57 = .ok (.iconst 1, 1) := by decide +kernel
theorem dX8_rankOf_58 : decode cX8_rankOf 58 = .ok (.if_icmp .ne 7, 3) := by decide +kernel
theorem dX8_rankOf_61 : decode cX8_rankOf 61 = .ok (.iconst 1, 1) := by decide +kernel
theorem dX8_rankOf_62 : decode cX8_rankOf 62 = .ok (.goto 4, 3) := by decide +kernel
theorem dX8_rankOf_65 : decode cX8_rankOf 65 = .ok (.iconst 0, 1) := by decide +kernel
theorem dX8_rankOf_66 : decode cX8_rankOf 66 = .ok (.istore 4, 2) := by decide +kernel
theorem dX8_rankOf_68 : decode cX8_rankOf 68 = .ok (.iload_n 2, 1) := by decide +kernel
theorem dX8_rankOf_69 : decode cX8_rankOf 69 = .ok (.iload 4, 2) := by decide +kernel
theorem dX8_rankOf_71 : decode cX8_rankOf 71 = .ok (.ifCond .eq 7, 3) := by decide +kernel
theorem dX8_rankOf_74 : decode cX8_rankOf 74 = .ok (.iconst 1, 1) := by decide +kernel
theorem dX8_rankOf_75 : decode cX8_rankOf 75 = .ok (.goto 4, 3) := by decide +kernel
theorem dX8_rankOf_78 : decode cX8_rankOf 78 = .ok (.iconst 0, 1) := by decide +kernel
theorem dX8_rankOf_79 : decode cX8_rankOf 79 = .ok (.iadd, 1) := by decide +kernel
theorem dX8_rankOf_80 : decode cX8_rankOf 80 = .ok (.istore_n 2, 1) := by decide +kernel
theorem dX8_rankOf_81 : decode cX8_rankOf 81 = .ok (.iinc 3 1, 3) := by decide +kernel
theorem dX8_rankOf_84 : decode cX8_rankOf 84 = .ok (.goto (-80), 3) := by decide +kernel
theorem dX8_rankOf_87 : decode cX8_rankOf 87 = .ok (.iload_n 2, 1) := by decide +kernel
theorem dX8_rankOf_88 : decode cX8_rankOf 88 = .ok (.ireturn, 1) := by decide +kernel
theorem dX8_loan_0 : decode cX8_loan 0 = .ok (.aload_n 0, 1) := by decide +kernel
theorem dX8_loan_1 : decode cX8_loan 1 = .ok (.iload_n 1, 1) := by decide +kernel
theorem dX8_loan_2 : decode cX8_loan 2 = .ok (.invokevirtual 193, 3) := by decide +kernel
theorem dX8_loan_5 : decode cX8_loan 5 = .ok (.ifCond .ne 6, 3) := by decide +kernel
theorem dX8_loan_8 : decode cX8_loan 8 = .ok (.ldc 183, 2) := by decide +kernel
theorem dX8_loan_10 : decode cX8_loan 10 = .ok (.ireturn, 1) := by decide +kernel
theorem dX8_loan_11 : decode cX8_loan 11 = .ok (.iload_n 2, 1) := by decide +kernel
theorem dX8_loan_12 : decode cX8_loan 12 = .ok (.tableswitch 92 0 5 #[40, 49, 59, 69, 76, 86], 40) := by decide +kernel
theorem dX8_loan_52 : decode cX8_loan 52 = .ok (.aload_n 0, 1) := by decide +kernel
theorem dX8_loan_53 : decode cX8_loan 53 = .ok (.getfield 7, 3) := by decide +kernel
theorem dX8_loan_56 : decode cX8_loan 56 = .ok (.iconst 5, 1) := by decide +kernel
theorem dX8_loan_57 : decode cX8_loan 57 = .ok (.iload_n 1, 1) := by decide +kernel
theorem dX8_loan_58 : decode cX8_loan 58 = .ok (.iadd, 1) := by decide +kernel
theorem dX8_loan_59 : decode cX8_loan 59 = .ok (.iaload, 1) := by decide +kernel
theorem dX8_loan_60 : decode cX8_loan 60 = .ok (.ireturn, 1) := by decide +kernel
theorem dX8_loan_61 : decode cX8_loan 61 = .ok (.aload_n 0, 1) := by decide +kernel
theorem dX8_loan_62 : decode cX8_loan 62 = .ok (.getfield 7, 3) := by decide +kernel
theorem dX8_loan_65 : decode cX8_loan 65 = .ok (.bipush 14, 2) := by decide +kernel
theorem dX8_loan_67 : decode cX8_loan 67 = .ok (.iload_n 1, 1) := by decide +kernel
theorem dX8_loan_68 : decode cX8_loan 68 = .ok (.iadd, 1) := by decide +kernel
theorem dX8_loan_69 : decode cX8_loan 69 = .ok (.iaload, 1) := by decide +kernel
theorem dX8_loan_70 : decode cX8_loan 70 = .ok (.ireturn, 1) := by decide +kernel
theorem dX8_loan_71 : decode cX8_loan 71 = .ok (.aload_n 0, 1) := by decide +kernel
theorem dX8_loan_72 : decode cX8_loan 72 = .ok (.getfield 7, 3) := by decide +kernel
theorem dX8_loan_75 : decode cX8_loan 75 = .ok (.bipush 23, 2) := by decide +kernel
theorem dX8_loan_77 : decode cX8_loan 77 = .ok (.iload_n 1, 1) := by decide +kernel
theorem dX8_loan_78 : decode cX8_loan 78 = .ok (.iadd, 1) := by decide +kernel
theorem dX8_loan_79 : decode cX8_loan 79 = .ok (.iaload, 1) := by decide +kernel
theorem dX8_loan_80 : decode cX8_loan 80 = .ok (.ireturn, 1) := by decide +kernel
theorem dX8_loan_81 : decode cX8_loan 81 = .ok (.aload_n 0, 1) := by decide +kernel
theorem dX8_loan_82 : decode cX8_loan 82 = .ok (.iconst 0, 1) := by decide +kernel
theorem dX8_loan_83 : decode cX8_loan 83 = .ok (.iload_n 1, 1) := by decide +kernel
theorem dX8_loan_84 : decode cX8_loan 84 = .ok (.invokevirtual 156, 3) := by decide +kernel
theorem dX8_loan_87 : decode cX8_loan 87 = .ok (.ireturn, 1) := by decide +kernel
theorem dX8_loan_88 : decode cX8_loan 88 = .ok (.aload_n 0, 1) := by decide +kernel
theorem dX8_loan_89 : decode cX8_loan 89 = .ok (.getfield 7, 3) := by decide +kernel
theorem dX8_loan_92 : decode cX8_loan 92 = .ok (.bipush 32, 2) := by decide +kernel
theorem dX8_loan_94 : decode cX8_loan 94 = .ok (.iload_n 1, 1) := by decide +kernel
theorem dX8_loan_95 : decode cX8_loan 95 = .ok (.iadd, 1) := by decide +kernel
theorem dX8_loan_96 : decode cX8_loan 96 = .ok (.iaload, 1) := by decide +kernel
theorem dX8_loan_97 : decode cX8_loan 97 = .ok (.ireturn, 1) := by decide +kernel
theorem dX8_loan_98 : decode cX8_loan 98 = .ok (.aload_n 0, 1) := by decide +kernel
theorem dX8_loan_99 : decode cX8_loan 99 = .ok (.iload_n 1, 1) := by decide +kernel
theorem dX8_loan_100 : decode cX8_loan 100 = .ok (.invokevirtual 196, 3) := by decide +kernel
theorem dX8_loan_103 : decode cX8_loan 103 = .ok (.ireturn, 1) := by decide +kernel
theorem dX8_loan_104 : decode cX8_loan 104 = .ok (.ldc 79, 2) := by decide +kernel
theorem dX8_loan_106 : decode cX8_loan 106 = .ok (.ireturn, 1) := by decide +kernel
theorem dX8_minds_0 : decode cX8_minds 0 = .ok (.aload_n 0, 1) := by decide +kernel
theorem dX8_minds_1 : decode cX8_minds 1 = .ok (.getfield 153, 3) := by decide +kernel
theorem dX8_minds_4 : decode cX8_minds 4 = .ok (.bipush 20, 2) := by decide +kernel
theorem dX8_minds_6 : decode cX8_minds 6 = .ok (.if_icmp .ne 51, 3) := by decide +kernel
theorem dX8_minds_9 : decode cX8_minds 9 = .ok (.iconst 0, 1) := by decide +kernel
theorem dX8_minds_10 : decode cX8_minds 10 = .ok (.istore_n 1, 1) := by decide +kernel
theorem dX8_minds_11 : decode cX8_minds 11 = .ok (.iload_n 1, 1) := by decide +kernel
theorem dX8_minds_12 : decode cX8_minds 12 = .ok (.sipush 798, 3) := by decide +kernel
theorem dX8_minds_15 : decode cX8_minds 15 = .ok (.if_icmp .ge 32, 3) := by decide +kernel
theorem dX8_minds_18 : decode cX8_minds 18 = .ok (.aload_n 0, 1) := by decide +kernel
theorem dX8_minds_19 : decode cX8_minds 19 = .ok (.getfield 7, 3) := by decide +kernel
theorem dX8_minds_22 : decode cX8_minds 22 = .ok (.sipush 168, 3) := by decide +kernel
theorem dX8_minds_25 : decode cX8_minds 25 = .ok (.iload_n 1, 1) := by decide +kernel
theorem dX8_minds_26 : decode cX8_minds 26 = .ok (.iadd, 1) := by decide +kernel
theorem dX8_minds_27 : decode cX8_minds 27 = .ok (.aload_n 0, 1) := by decide +kernel
theorem dX8_minds_28 : decode cX8_minds 28 = .ok (.getfield 7, 3) := by decide +kernel
theorem dX8_minds_31 : decode cX8_minds 31 = .ok (.sipush 168, 3) := by decide +kernel
theorem dX8_minds_34 : decode cX8_minds 34 = .ok (.iload_n 1, 1) := by decide +kernel
theorem dX8_minds_35 : decode cX8_minds 35 = .ok (.iadd, 1) := by decide +kernel
theorem dX8_minds_36 : decode cX8_minds 36 = .ok (.bipush 42, 2) := by decide +kernel
theorem dX8_minds_38 : decode cX8_minds 38 = .ok (.iadd, 1) := by decide +kernel
theorem dX8_minds_39 : decode cX8_minds 39 = .ok (.iaload, 1) := by decide +kernel
theorem dX8_minds_40 : decode cX8_minds 40 = .ok (.iastore, 1) := by decide +kernel
theorem dX8_minds_41 : decode cX8_minds 41 = .ok (.iinc 1 1, 3) := by decide +kernel
theorem dX8_minds_44 : decode cX8_minds 44 = .ok (.goto (-33), 3) := by decide +kernel
theorem dX8_minds_47 : decode cX8_minds 47 = .ok (.aload_n 0, 1) := by decide +kernel
theorem dX8_minds_48 : decode cX8_minds 48 = .ok (.dup, 1) := by decide +kernel
theorem dX8_minds_49 : decode cX8_minds 49 = .ok (.getfield 153, 3) := by decide +kernel
theorem dX8_minds_52 : decode cX8_minds 52 = .ok (.iconst 1, 1) := by decide +kernel
theorem dX8_minds_53 : decode cX8_minds 53 = .ok (.isub, 1) := by decide +kernel
theorem dX8_minds_54 : decode cX8_minds 54 = .ok (.putfield 153, 3) := by decide +kernel
theorem dX8_minds_57 : decode cX8_minds 57 = .ok (.aload_n 0, 1) := by decide +kernel
theorem dX8_minds_58 : decode cX8_minds 58 = .ok (.iconst 0, 1) := by decide +kernel
theorem dX8_minds_59 : decode cX8_minds 59 = .ok (.sipush 168, 3) := by decide +kernel
theorem dX8_minds_62 : decode cX8_minds 62 = .ok (.bipush 42, 2) := by decide +kernel
theorem dX8_minds_64 : decode cX8_minds 64 = .ok (.aload_n 0, 1) := by decide +kernel
theorem dX8_minds_65 : decode cX8_minds 65 = .ok (.getfield 153, 3) := by decide +kernel
theorem dX8_minds_68 : decode cX8_minds 68 = .ok (.imul, 1) := by decide +kernel
theorem dX8_minds_69 : decode cX8_minds 69 = .ok (.iadd, 1) := by decide +kernel
theorem dX8_minds_70 : decode cX8_minds 70 = .ok (.invokevirtual 199, 3) := by decide +kernel
theorem dX8_minds_73 : decode cX8_minds 73 = .ok (.aload_n 0, 1) := by decide +kernel
theorem dX8_minds_74 : decode cX8_minds 74 = .ok (.dup, 1) := by decide +kernel
theorem dX8_minds_75 : decode cX8_minds 75 = .ok (.getfield 153, 3) := by decide +kernel
theorem dX8_minds_78 : decode cX8_minds 78 = .ok (.iconst 1, 1) := by decide +kernel
theorem dX8_minds_79 : decode cX8_minds 79 = .ok (.iadd, 1) := by decide +kernel
theorem dX8_minds_80 : decode cX8_minds 80 = .ok (.putfield 153, 3) := by decide +kernel
theorem dX8_minds_83 : decode cX8_minds 83 = .ok (.return_, 1) := by decide +kernel
theorem dX8_undo_0 : decode cX8_undo 0 = .ok (.aload_n 0, 1) := by decide +kernel
theorem dX8_undo_1 : decode cX8_undo 1 = .ok (.getfield 153, 3) := by decide +kernel
theorem dX8_undo_4 : decode cX8_undo 4 = .ok (.ifCond .ne 6, 3) := by decide +kernel
theorem dX8_undo_7 : decode cX8_undo 7 = .ok (.ldc 202, 2) := by decide +kernel
theorem dX8_undo_9 : decode cX8_undo 9 = .ok (.ireturn, 1) := by decide +kernel
theorem dX8_undo_10 : decode cX8_undo 10 = .ok (.aload_n 0, 1) := by decide +kernel
theorem dX8_undo_11 : decode cX8_undo 11 = .ok (.getfield 7, 3) := by decide +kernel
theorem dX8_undo_14 : decode cX8_undo 14 = .ok (.bipush 41, 2) := by decide +kernel
theorem dX8_undo_16 : decode cX8_undo 16 = .ok (.iaload, 1) := by decide +kernel
theorem dX8_undo_17 : decode cX8_undo 17 = .ok (.istore_n 1, 1) := by decide +kernel
theorem dX8_undo_18 : decode cX8_undo 18 = .ok (.aload_n 0, 1) := by decide +kernel
theorem dX8_undo_19 : decode cX8_undo 19 = .ok (.dup, 1) := by decide +kernel
theorem dX8_undo_20 : decode cX8_undo 20 = .ok (.getfield 153, 3) := by decide +kernel
theorem dX8_undo_23 : decode cX8_undo 23 = .ok (.iconst 1, 1) := by decide +kernel
theorem dX8_undo_24 : decode cX8_undo 24 = .ok (.isub, 1) := by decide +kernel
theorem dX8_undo_25 : decode cX8_undo 25 = .ok (.putfield 153, 3) := by decide +kernel
theorem dX8_undo_28 : decode cX8_undo 28 = .ok (.aload_n 0, 1) := by decide +kernel
theorem dX8_undo_29 : decode cX8_undo 29 = .ok (.sipush 168, 3) := by decide +kernel
theorem dX8_undo_32 : decode cX8_undo 32 = .ok (.bipush 42, 2) := by decide +kernel
theorem dX8_undo_34 : decode cX8_undo 34 = .ok (.aload_n 0, 1) := by decide +kernel
theorem dX8_undo_35 : decode cX8_undo 35 = .ok (.getfield 153, 3) := by decide +kernel
theorem dX8_undo_38 : decode cX8_undo 38 = .ok (.imul, 1) := by decide +kernel
theorem dX8_undo_39 : decode cX8_undo 39 = .ok (.iadd, 1) := by decide +kernel
theorem dX8_undo_40 : decode cX8_undo 40 = .ok (.iconst 0, 1) := by decide +kernel
theorem dX8_undo_41 : decode cX8_undo 41 = .ok (.invokevirtual 199, 3) := by decide +kernel
theorem dX8_undo_44 : decode cX8_undo 44 = .ok (.aload_n 0, 1) := by decide +kernel
theorem dX8_undo_45 : decode cX8_undo 45 = .ok (.getfield 7, 3) := by decide +kernel
theorem dX8_undo_48 : decode cX8_undo 48 = .ok (.bipush 41, 2) := by decide +kernel
theorem dX8_undo_50 : decode cX8_undo 50 = .ok (.iload_n 1, 1) := by decide +kernel
theorem dX8_undo_51 : decode cX8_undo 51 = .ok (.iastore, 1) := by decide +kernel
theorem dX8_undo_52 : decode cX8_undo 52 = .ok (.aload_n 0, 1) := by decide +kernel
theorem dX8_undo_53 : decode cX8_undo 53 = .ok (.getfield 153, 3) := by decide +kernel
theorem dX8_undo_56 : decode cX8_undo 56 = .ok (.ireturn, 1) := by decide +kernel
theorem dX8_takesLoan_0 : decode cX8_takesLoan 0 = .ok (.aload_n 0, 1) := by decide +kernel
theorem dX8_takesLoan_1 : decode cX8_takesLoan 1 = .ok (.getfield 7, 3) := by decide +kernel
theorem dX8_takesLoan_4 : decode cX8_takesLoan 4 = .ok (.iload_n 1, 1) := by decide +kernel
theorem dX8_takesLoan_5 : decode cX8_takesLoan 5 = .ok (.iconst 4, 1) := by decide +kernel
theorem dX8_takesLoan_6 : decode cX8_takesLoan 6 = .ok (.iadd, 1) := by decide +kernel
theorem dX8_takesLoan_7 : decode cX8_takesLoan 7 = .ok (.iaload, 1) := by decide +kernel
theorem dX8_takesLoan_8 : decode cX8_takesLoan 8 = .ok (.istore 5, 2) := by decide +kernel
theorem dX8_takesLoan_10 : decode cX8_takesLoan 10 = .ok (.aload_n 0, 1) := by decide +kernel
theorem dX8_takesLoan_11 : decode cX8_takesLoan 11 = .ok (.getfield 7, 3) := by decide +kernel
theorem dX8_takesLoan_14 : decode cX8_takesLoan 14 = .ok (.iload_n 1, 1) := by decide +kernel
theorem dX8_takesLoan_15 : decode cX8_takesLoan 15 = .ok (.iconst 5, 1) := by decide +kernel
theorem dX8_takesLoan_16 : decode cX8_takesLoan 16 = .ok (.iadd, 1) := by decide +kernel
theorem dX8_takesLoan_17 : decode cX8_takesLoan 17 = .ok (.iload 5, 2) := by decide +kernel
theorem dX8_takesLoan_19 : decode cX8_takesLoan 19 = .ok (.iadd, 1) := by decide +kernel
theorem dX8_takesLoan_20 : decode cX8_takesLoan 20 = .ok (.iload_n 2, 1) := by decide +kernel
theorem dX8_takesLoan_21 : decode cX8_takesLoan 21 = .ok (.iastore, 1) := by decide +kernel
theorem dX8_takesLoan_22 : decode cX8_takesLoan 22 = .ok (.aload_n 0, 1) := by decide +kernel
theorem dX8_takesLoan_23 : decode cX8_takesLoan 23 = .ok (.getfield 7, 3) := by decide +kernel
theorem dX8_takesLoan_26 : decode cX8_takesLoan 26 = .ok (.iload_n 1, 1) := by decide +kernel
theorem dX8_takesLoan_27 : decode cX8_takesLoan 27 = .ok (.bipush 14, 2) := by decide +kernel
theorem dX8_takesLoan_29 : decode cX8_takesLoan 29 = .ok (.iadd, 1) := by decide +kernel
theorem dX8_takesLoan_30 : decode cX8_takesLoan 30 = .ok (.iload 5, 2) := by decide +kernel
theorem dX8_takesLoan_32 : decode cX8_takesLoan 32 = .ok (.iadd, 1) := by decide +kernel
theorem dX8_takesLoan_33 : decode cX8_takesLoan 33 = .ok (.iload_n 3, 1) := by decide +kernel
theorem dX8_takesLoan_34 : decode cX8_takesLoan 34 = .ok (.iastore, 1) := by decide +kernel
theorem dX8_takesLoan_35 : decode cX8_takesLoan 35 = .ok (.aload_n 0, 1) := by decide +kernel
theorem dX8_takesLoan_36 : decode cX8_takesLoan 36 = .ok (.getfield 7, 3) := by decide +kernel
theorem dX8_takesLoan_39 : decode cX8_takesLoan 39 = .ok (.iload_n 1, 1) := by decide +kernel
theorem dX8_takesLoan_40 : decode cX8_takesLoan 40 = .ok (.bipush 23, 2) := by decide +kernel
theorem dX8_takesLoan_42 : decode cX8_takesLoan 42 = .ok (.iadd, 1) := by decide +kernel
theorem dX8_takesLoan_43 : decode cX8_takesLoan 43 = .ok (.iload 5, 2) := by decide +kernel
theorem dX8_takesLoan_45 : decode cX8_takesLoan 45 = .ok (.iadd, 1) := by decide +kernel
theorem dX8_takesLoan_46 : decode cX8_takesLoan 46 = .ok (.iload 4, 2) := by decide +kernel
theorem dX8_takesLoan_48 : decode cX8_takesLoan 48 = .ok (.ifCond .eq 7, 3) := by decide +kernel
theorem dX8_takesLoan_51 : decode cX8_takesLoan 51 = .ok (.iconst 1, 1) := by decide +kernel
theorem dX8_takesLoan_52 : decode cX8_takesLoan 52 = .ok (.goto 4, 3) := by decide +kernel
theorem dX8_takesLoan_55 : decode cX8_takesLoan 55 = .ok (.iconst 0, 1) := by decide +kernel
theorem dX8_takesLoan_56 : decode cX8_takesLoan 56 = .ok (.iastore, 1) := by decide +kernel
theorem dX8_takesLoan_57 : decode cX8_takesLoan 57 = .ok (.aload_n 0, 1) := by decide +kernel
theorem dX8_takesLoan_58 : decode cX8_takesLoan 58 = .ok (.getfield 7, 3) := by decide +kernel
theorem dX8_takesLoan_61 : decode cX8_takesLoan 61 = .ok (.iload_n 1, 1) := by decide +kernel
theorem dX8_takesLoan_62 : decode cX8_takesLoan 62 = .ok (.bipush 32, 2) := by decide +kernel
theorem dX8_takesLoan_64 : decode cX8_takesLoan 64 = .ok (.iadd, 1) := by decide +kernel
theorem dX8_takesLoan_65 : decode cX8_takesLoan 65 = .ok (.iload 5, 2) := by decide +kernel
theorem dX8_takesLoan_67 : decode cX8_takesLoan 67 = .ok (.iadd, 1) := by decide +kernel
theorem dX8_takesLoan_68 : decode cX8_takesLoan 68 = .ok (.aload_n 0, 1) := by decide +kernel
theorem dX8_takesLoan_69 : decode cX8_takesLoan 69 = .ok (.getfield 7, 3) := by decide +kernel
theorem dX8_takesLoan_72 : decode cX8_takesLoan 72 = .ok (.iload_n 1, 1) := by decide +kernel
theorem dX8_takesLoan_73 : decode cX8_takesLoan 73 = .ok (.iconst 0, 1) := by decide +kernel
theorem dX8_takesLoan_74 : decode cX8_takesLoan 74 = .ok (.iadd, 1) := by decide +kernel
theorem dX8_takesLoan_75 : decode cX8_takesLoan 75 = .ok (.iaload, 1) := by decide +kernel
theorem dX8_takesLoan_76 : decode cX8_takesLoan 76 = .ok (.iastore, 1) := by decide +kernel
theorem dX8_takesLoan_77 : decode cX8_takesLoan 77 = .ok (.aload_n 0, 1) := by decide +kernel
theorem dX8_takesLoan_78 : decode cX8_takesLoan 78 = .ok (.getfield 7, 3) := by decide +kernel
theorem dX8_takesLoan_81 : decode cX8_takesLoan 81 = .ok (.iload_n 1, 1) := by decide +kernel
theorem dX8_takesLoan_82 : decode cX8_takesLoan 82 = .ok (.iconst 4, 1) := by decide +kernel
theorem dX8_takesLoan_83 : decode cX8_takesLoan 83 = .ok (.iadd, 1) := by decide +kernel
theorem dX8_takesLoan_84 : decode cX8_takesLoan 84 = .ok (.dup2, 1) := by decide +kernel
theorem dX8_takesLoan_85 : decode cX8_takesLoan 85 = .ok (.iaload, 1) := by decide +kernel
theorem dX8_takesLoan_86 : decode cX8_takesLoan 86 = .ok (.iconst 1, 1) := by decide +kernel
theorem dX8_takesLoan_87 : decode cX8_takesLoan 87 = .ok (.iadd, 1) := by decide +kernel
theorem dX8_takesLoan_88 : decode cX8_takesLoan 88 = .ok (.iastore, 1) := by decide +kernel
theorem dX8_takesLoan_89 : decode cX8_takesLoan 89 = .ok (.aload_n 0, 1) := by decide +kernel
theorem dX8_takesLoan_90 : decode cX8_takesLoan 90 = .ok (.getfield 7, 3) := by decide +kernel
theorem dX8_takesLoan_93 : decode cX8_takesLoan 93 = .ok (.iload_n 1, 1) := by decide +kernel
theorem dX8_takesLoan_94 : decode cX8_takesLoan 94 = .ok (.iconst 3, 1) := by decide +kernel
theorem dX8_takesLoan_95 : decode cX8_takesLoan 95 = .ok (.iadd, 1) := by decide +kernel
theorem dX8_takesLoan_96 : decode cX8_takesLoan 96 = .ok (.dup2, 1) := by decide +kernel
theorem dX8_takesLoan_97 : decode cX8_takesLoan 97 = .ok (.iaload, 1) := by decide +kernel
theorem dX8_takesLoan_98 : decode cX8_takesLoan 98 = .ok (.iload_n 3, 1) := by decide +kernel
theorem dX8_takesLoan_99 : decode cX8_takesLoan 99 = .ok (.iadd, 1) := by decide +kernel
theorem dX8_takesLoan_100 : decode cX8_takesLoan 100 = .ok (.iastore, 1) := by decide +kernel
theorem dX8_takesLoan_101 : decode cX8_takesLoan 101 = .ok (.return_, 1) := by decide +kernel
theorem dX8_borrow_0 : decode cX8_borrow 0 = .ok (.aload_n 0, 1) := by decide +kernel
theorem dX8_borrow_1 : decode cX8_borrow 1 = .ok (.iload_n 1, 1) := by decide +kernel
theorem dX8_borrow_2 : decode cX8_borrow 2 = .ok (.invokevirtual 187, 3) := by decide +kernel
theorem dX8_borrow_5 : decode cX8_borrow 5 = .ok (.ifCond .ne 6, 3) := by decide +kernel
theorem dX8_borrow_8 : decode cX8_borrow 8 = .ok (.ldc 183, 2) := by decide +kernel
theorem dX8_borrow_10 : decode cX8_borrow 10 = .ok (.ireturn, 1) := by decide +kernel
theorem dX8_borrow_11 : decode cX8_borrow 11 = .ok (.iload_n 2, 1) := by decide +kernel
theorem dX8_borrow_12 : decode cX8_borrow 12 = .ok (.i2l, 1) := by decide +kernel
theorem dX8_borrow_13 : decode cX8_borrow 13 = .ok (.lconst 1, 1) := by decide +kernel
theorem dX8_borrow_14 : decode cX8_borrow 14 = .ok (.ldc2_w 203, 3) := by decide +kernel
theorem dX8_borrow_17 : decode cX8_borrow 17 = .ok (.invokestatic 70, 3) := by decide +kernel
theorem dX8_borrow_20 : decode cX8_borrow 20 = .ok (.ifCond .ne 6, 3) := by decide +kernel
theorem dX8_borrow_23 : decode cX8_borrow 23 = .ok (.ldc 79, 2) := by decide +kernel
theorem dX8_borrow_25 : decode cX8_borrow 25 = .ok (.ireturn, 1) := by decide +kernel
theorem dX8_borrow_26 : decode cX8_borrow 26 = .ok (.aload_n 0, 1) := by decide +kernel
theorem dX8_borrow_27 : decode cX8_borrow 27 = .ok (.invokevirtual 171, 3) := by decide +kernel
theorem dX8_borrow_30 : decode cX8_borrow 30 = .ok (.ifCond .ne 12, 3) := by decide +kernel
theorem dX8_borrow_33 : decode cX8_borrow 33 = .ok (.aload_n 0, 1) := by decide +kernel
theorem dX8_borrow_34 : decode cX8_borrow 34 = .ok (.iload_n 1, 1) := by decide +kernel
theorem dX8_borrow_35 : decode cX8_borrow 35 = .ok (.invokevirtual 190, 3) := by decide +kernel
theorem dX8_borrow_38 : decode cX8_borrow 38 = .ok (.iload_n 2, 1) := by decide +kernel
theorem dX8_borrow_39 : decode cX8_borrow 39 = .ok (.if_icmp .ge 6, 3) := by decide +kernel
theorem dX8_borrow_42 : decode cX8_borrow 42 = .ok (.ldc 202, 2) := by decide +kernel
theorem dX8_borrow_44 : decode cX8_borrow 44 = .ok (.ireturn, 1) := by decide +kernel
theorem dX8_borrow_45 : decode cX8_borrow 45 = .ok (.aload_n 0, 1) := by decide +kernel
theorem dX8_borrow_46 : decode cX8_borrow 46 = .ok (.getfield 7, 3) := by decide +kernel
theorem dX8_borrow_49 : decode cX8_borrow 49 = .ok (.iconst 4, 1) := by decide +kernel
theorem dX8_borrow_50 : decode cX8_borrow 50 = .ok (.iaload, 1) := by decide +kernel
theorem dX8_borrow_51 : decode cX8_borrow 51 = .ok (.bipush 8, 2) := by decide +kernel
theorem dX8_borrow_53 : decode cX8_borrow 53 = .ok (.if_icmp .ne 6, 3) := by decide +kernel
theorem dX8_borrow_56 : decode cX8_borrow 56 = .ok (.ldc 83, 2) := by decide +kernel
theorem dX8_borrow_58 : decode cX8_borrow 58 = .ok (.ireturn, 1) := by decide +kernel
theorem dX8_borrow_59 : decode cX8_borrow 59 = .ok (.aload_n 0, 1) := by decide +kernel
theorem dX8_borrow_60 : decode cX8_borrow 60 = .ok (.invokevirtual 205, 3) := by decide +kernel
theorem dX8_borrow_63 : decode cX8_borrow 63 = .ok (.aload_n 0, 1) := by decide +kernel
theorem dX8_borrow_64 : decode cX8_borrow 64 = .ok (.iconst 0, 1) := by decide +kernel
theorem dX8_borrow_65 : decode cX8_borrow 65 = .ok (.iload_n 1, 1) := by decide +kernel
theorem dX8_borrow_66 : decode cX8_borrow 66 = .ok (.iload_n 2, 1) := by decide +kernel
theorem dX8_borrow_67 : decode cX8_borrow 67 = .ok (.iload_n 3, 1) := by decide +kernel
theorem dX8_borrow_68 : decode cX8_borrow 68 = .ok (.invokevirtual 208, 3) := by decide +kernel
theorem dX8_borrow_71 : decode cX8_borrow 71 = .ok (.aload_n 0, 1) := by decide +kernel
theorem dX8_borrow_72 : decode cX8_borrow 72 = .ok (.getfield 7, 3) := by decide +kernel
theorem dX8_borrow_75 : decode cX8_borrow 75 = .ok (.iconst 4, 1) := by decide +kernel
theorem dX8_borrow_76 : decode cX8_borrow 76 = .ok (.iaload, 1) := by decide +kernel
theorem dX8_borrow_77 : decode cX8_borrow 77 = .ok (.iconst 1, 1) := by decide +kernel
theorem dX8_borrow_78 : decode cX8_borrow 78 = .ok (.isub, 1) := by decide +kernel
theorem dX8_borrow_79 : decode cX8_borrow 79 = .ok (.ireturn, 1) := by decide +kernel
theorem dX8_repair_0 : decode cX8_repair 0 = .ok (.iload_n 1, 1) := by decide +kernel
theorem dX8_repair_1 : decode cX8_repair 1 = .ok (.i2l, 1) := by decide +kernel
theorem dX8_repair_2 : decode cX8_repair 2 = .ok (.lconst 1, 1) := by decide +kernel
theorem dX8_repair_3 : decode cX8_repair 3 = .ok (.ldc2_w 212, 3) := by decide +kernel
theorem dX8_repair_6 : decode cX8_repair 6 = .ok (.invokestatic 70, 3) := by decide +kernel
theorem dX8_repair_9 : decode cX8_repair 9 = .ok (.ifCond .ne 6, 3) := by decide +kernel
theorem dX8_repair_12 : decode cX8_repair 12 = .ok (.ldc 79, 2) := by decide +kernel
theorem dX8_repair_14 : decode cX8_repair 14 = .ok (.ireturn, 1) := by decide +kernel
theorem dX8_repair_15 : decode cX8_repair 15 = .ok (.aload_n 0, 1) := by decide +kernel
theorem dX8_repair_16 : decode cX8_repair 16 = .ok (.invokevirtual 171, 3) := by decide +kernel
theorem dX8_repair_19 : decode cX8_repair 19 = .ok (.ifCond .ne 38, 3) := by decide +kernel
theorem dX8_repair_22 : decode cX8_repair 22 = .ok (.aload_n 0, 1) := by decide +kernel
theorem dX8_repair_23 : decode cX8_repair 23 = .ok (.getfield 7, 3) := by decide +kernel
theorem dX8_repair_26 : decode cX8_repair 26 = .ok (.iconst 2, 1) := by decide +kernel
theorem dX8_repair_27 : decode cX8_repair 27 = .ok (.iaload, 1) := by decide +kernel
theorem dX8_repair_28 : decode cX8_repair 28 = .ok (.iload_n 1, 1) := by decide +kernel
theorem dX8_repair_29 : decode cX8_repair 29 = .ok (.iadd, 1) := by decide +kernel
theorem dX8_repair_30 : decode cX8_repair 30 = .ok (.bipush 9, 2) := by decide +kernel
theorem dX8_repair_32 : decode cX8_repair 32 = .ok (.if_icmp .gt 25, 3) := by decide +kernel
theorem dX8_repair_35 : decode cX8_repair 35 = .ok (.aload_n 0, 1) := by decide +kernel
theorem dX8_repair_36 : decode cX8_repair 36 = .ok (.getfield 7, 3) := by decide +kernel
theorem dX8_repair_39 : decode cX8_repair 39 = .ok (.iconst 3, 1) := by decide +kernel
theorem dX8_repair_40 : decode cX8_repair 40 = .ok (.iaload, 1) := by decide +kernel
theorem dX8_repair_41 : decode cX8_repair 41 = .ok (.iload_n 1, 1) := by decide +kernel
theorem dX8_repair_42 : decode cX8_repair 42 = .ok (.aload_n 0, 1) := by decide +kernel
theorem dX8_repair_43 : decode cX8_repair 43 = .ok (.getfield 23, 3) := by decide +kernel
theorem dX8_repair_46 : decode cX8_repair 46 = .ok (.aload_n 0, 1) := by decide +kernel
theorem dX8_repair_47 : decode cX8_repair 47 = .ok (.getfield 7, 3) := by decide +kernel
theorem dX8_repair_50 : decode cX8_repair 50 = .ok (.iconst 0, 1) := by decide +kernel
theorem dX8_repair_51 : decode cX8_repair 51 = .ok (.iaload, 1) := by decide +kernel
theorem dX8_repair_52 : decode cX8_repair 52 = .ok (.iaload, 1) := by decide +kernel
theorem dX8_repair_53 : decode cX8_repair 53 = .ok (.imul, 1) := by decide +kernel
theorem dX8_repair_54 : decode cX8_repair 54 = .ok (.if_icmp .ge 6, 3) := by decide +kernel
theorem dX8_repair_57 : decode cX8_repair 57 = .ok (.ldc 202, 2) := by decide +kernel
theorem dX8_repair_59 : decode cX8_repair 59 = .ok (.ireturn, 1) := by decide +kernel
theorem dX8_repair_60 : decode cX8_repair 60 = .ok (.aload_n 0, 1) := by decide +kernel
theorem dX8_repair_61 : decode cX8_repair 61 = .ok (.invokevirtual 205, 3) := by decide +kernel
theorem dX8_repair_64 : decode cX8_repair 64 = .ok (.aload_n 0, 1) := by decide +kernel
theorem dX8_repair_65 : decode cX8_repair 65 = .ok (.getfield 7, 3) := by decide +kernel
theorem dX8_repair_68 : decode cX8_repair 68 = .ok (.iconst 3, 1) := by decide +kernel
theorem dX8_repair_69 : decode cX8_repair 69 = .ok (.dup2, 1) := by decide +kernel
theorem dX8_repair_70 : decode cX8_repair 70 = .ok (.iaload, 1) := by decide +kernel
theorem dX8_repair_71 : decode cX8_repair 71 = .ok (.iload_n 1, 1) := by decide +kernel
theorem dX8_repair_72 : decode cX8_repair 72 = .ok (.aload_n 0, 1) := by decide +kernel
theorem dX8_repair_73 : decode cX8_repair 73 = .ok (.getfield 23, 3) := by decide +kernel
theorem dX8_repair_76 : decode cX8_repair 76 = .ok (.aload_n 0, 1) := by decide +kernel
theorem dX8_repair_77 : decode cX8_repair 77 = .ok (.getfield 7, 3) := by decide +kernel
theorem dX8_repair_80 : decode cX8_repair 80 = .ok (.iconst 0, 1) := by decide +kernel
theorem dX8_repair_81 : decode cX8_repair 81 = .ok (.iaload, 1) := by decide +kernel
theorem dX8_repair_82 : decode cX8_repair 82 = .ok (.iaload, 1) := by decide +kernel
theorem dX8_repair_83 : decode cX8_repair 83 = .ok (.imul, 1) := by decide +kernel
theorem dX8_repair_84 : decode cX8_repair 84 = .ok (.isub, 1) := by decide +kernel
theorem dX8_repair_85 : decode cX8_repair 85 = .ok (.iastore, 1) := by decide +kernel
theorem dX8_repair_86 : decode cX8_repair 86 = .ok (.aload_n 0, 1) := by decide +kernel
theorem dX8_repair_87 : decode cX8_repair 87 = .ok (.getfield 7, 3) := by decide +kernel
theorem dX8_repair_90 : decode cX8_repair 90 = .ok (.iconst 2, 1) := by decide +kernel
theorem dX8_repair_91 : decode cX8_repair 91 = .ok (.dup2, 1) := by decide +kernel
theorem dX8_repair_92 : decode cX8_repair 92 = .ok (.iaload, 1) := by decide +kernel
theorem dX8_repair_93 : decode cX8_repair 93 = .ok (.iload_n 1, 1) := by decide +kernel
theorem dX8_repair_94 : decode cX8_repair 94 = .ok (.iadd, 1) := by decide +kernel
theorem dX8_repair_95 : decode cX8_repair 95 = .ok (.iastore, 1) := by decide +kernel
theorem dX8_repair_96 : decode cX8_repair 96 = .ok (.aload_n 0, 1) := by decide +kernel
theorem dX8_repair_97 : decode cX8_repair 97 = .ok (.getfield 7, 3) := by decide +kernel
theorem dX8_repair_100 : decode cX8_repair 100 = .ok (.iconst 2, 1) := by decide +kernel
theorem dX8_repair_101 : decode cX8_repair 101 = .ok (.iaload, 1) := by decide +kernel
theorem dX8_repair_102 : decode cX8_repair 102 = .ok (.ireturn, 1) := by decide +kernel
theorem dX8_sails_0 : decode cX8_sails 0 = .ok (.iload_n 1, 1) := by decide +kernel
theorem dX8_sails_1 : decode cX8_sails 1 = .ok (.ifCond .eq 39, 3) := by decide +kernel
theorem dX8_sails_4 : decode cX8_sails 4 = .ok (.aload_n 0, 1) := by decide +kernel
theorem dX8_sails_5 : decode cX8_sails 5 = .ok (.getfield 7, 3) := by decide +kernel
theorem dX8_sails_8 : decode cX8_sails 8 = .ok (.iconst 0, 1) := by decide +kernel
theorem dX8_sails_9 : decode cX8_sails 9 = .ok (.dup2, 1) := by decide +kernel
theorem dX8_sails_10 : decode cX8_sails 10 = .ok (.iaload, 1) := by decide +kernel
theorem dX8_sails_11 : decode cX8_sails 11 = .ok (.iconst 1, 1) := by decide +kernel
theorem dX8_sails_12 : decode cX8_sails 12 = .ok (.iadd, 1) := by decide +kernel
theorem dX8_sails_13 : decode cX8_sails 13 = .ok (.iastore, 1) := by decide +kernel
theorem dX8_sails_14 : decode cX8_sails 14 = .ok (.aload_n 0, 1) := by decide +kernel
theorem dX8_sails_15 : decode cX8_sails 15 = .ok (.getfield 7, 3) := by decide +kernel
theorem dX8_sails_18 : decode cX8_sails 18 = .ok (.iconst 2, 1) := by decide +kernel
theorem dX8_sails_19 : decode cX8_sails 19 = .ok (.dup2, 1) := by decide +kernel
theorem dX8_sails_20 : decode cX8_sails 20 = .ok (.iaload, 1) := by decide +kernel
theorem dX8_sails_21 : decode cX8_sails 21 = .ok (.aload_n 0, 1) := by decide +kernel
theorem dX8_sails_22 : decode cX8_sails 22 = .ok (.getfield 7, 3) := by decide +kernel
theorem dX8_sails_25 : decode cX8_sails 25 = .ok (.iconst 2, 1) := by decide +kernel
theorem dX8_sails_26 : decode cX8_sails 26 = .ok (.iaload, 1) := by decide +kernel
theorem dX8_sails_27 : decode cX8_sails 27 = .ok (.ifCond .le 7, 3) := by decide +kernel
theorem dX8_sails_30 : decode cX8_sails 30 = .ok (.iconst 1, 1) := by decide +kernel
theorem dX8_sails_31 : decode cX8_sails 31 = .ok (.goto 4, 3) := by decide +kernel
theorem dX8_sails_34 : decode cX8_sails 34 = .ok (.iconst 0, 1) := by decide +kernel
theorem dX8_sails_35 : decode cX8_sails 35 = .ok (.isub, 1) := by decide +kernel
theorem dX8_sails_36 : decode cX8_sails 36 = .ok (.iastore, 1) := by decide +kernel
theorem dX8_sails_37 : decode cX8_sails 37 = .ok (.goto 10, 3) := by decide +kernel
theorem dX8_sails_40 : decode cX8_sails 40 = .ok (.aload_n 0, 1) := by decide +kernel
theorem dX8_sails_41 : decode cX8_sails 41 = .ok (.getfield 7, 3) := by decide +kernel
theorem dX8_sails_44 : decode cX8_sails 44 = .ok (.iconst 1, 1) := by decide +kernel
theorem dX8_sails_45 : decode cX8_sails 45 = .ok (.iconst 1, 1) := by decide +kernel
theorem dX8_sails_46 : decode cX8_sails 46 = .ok (.iastore, 1) := by decide +kernel
theorem dX8_sails_47 : decode cX8_sails 47 = .ok (.return_, 1) := by decide +kernel
theorem dX8_sail_0 : decode cX8_sail 0 = .ok (.aload_n 0, 1) := by decide +kernel
theorem dX8_sail_1 : decode cX8_sail 1 = .ok (.invokevirtual 171, 3) := by decide +kernel
theorem dX8_sail_4 : decode cX8_sail 4 = .ok (.ifCond .eq 6, 3) := by decide +kernel
theorem dX8_sail_7 : decode cX8_sail 7 = .ok (.ldc 202, 2) := by decide +kernel
theorem dX8_sail_9 : decode cX8_sail 9 = .ok (.ireturn, 1) := by decide +kernel
theorem dX8_sail_10 : decode cX8_sail 10 = .ok (.aload_n 0, 1) := by decide +kernel
theorem dX8_sail_11 : decode cX8_sail 11 = .ok (.invokevirtual 205, 3) := by decide +kernel
theorem dX8_sail_14 : decode cX8_sail 14 = .ok (.aload_n 0, 1) := by decide +kernel
theorem dX8_sail_15 : decode cX8_sail 15 = .ok (.iload_n 1, 1) := by decide +kernel
theorem dX8_sail_16 : decode cX8_sail 16 = .ok (.invokevirtual 214, 3) := by decide +kernel
theorem dX8_sail_19 : decode cX8_sail 19 = .ok (.aload_n 0, 1) := by decide +kernel
theorem dX8_sail_20 : decode cX8_sail 20 = .ok (.getfield 7, 3) := by decide +kernel
theorem dX8_sail_23 : decode cX8_sail 23 = .ok (.iconst 0, 1) := by decide +kernel
theorem dX8_sail_24 : decode cX8_sail 24 = .ok (.iaload, 1) := by decide +kernel
theorem dX8_sail_25 : decode cX8_sail 25 = .ok (.ireturn, 1) := by decide +kernel
theorem dX8_draw_0 : decode cX8_draw 0 = .ok (.aload_n 0, 1) := by decide +kernel
theorem dX8_draw_1 : decode cX8_draw 1 = .ok (.getfield 7, 3) := by decide +kernel
theorem dX8_draw_4 : decode cX8_draw 4 = .ok (.bipush 41, 2) := by decide +kernel
theorem dX8_draw_6 : decode cX8_draw 6 = .ok (.aload_n 0, 1) := by decide +kernel
theorem dX8_draw_7 : decode cX8_draw 7 = .ok (.getfield 7, 3) := by decide +kernel
theorem dX8_draw_10 : decode cX8_draw 10 = .ok (.bipush 41, 2) := by decide +kernel
theorem dX8_draw_12 : decode cX8_draw 12 = .ok (.iaload, 1) := by decide +kernel
theorem dX8_draw_13 : decode cX8_draw 13 = .ok (.i2l, 1) := by decide +kernel
theorem dX8_draw_14 : decode cX8_draw 14 = .ok (.ldc2_w 218, 3) := by decide +kernel
theorem dX8_draw_17 : decode cX8_draw 17 = .ok (.lmul, 1) := by decide +kernel
theorem dX8_draw_18 : decode cX8_draw 18 = .ok (.ldc2_w 220, 3) := by decide +kernel
theorem dX8_draw_21 : decode cX8_draw 21 = .ok (.ladd, 1) := by decide +kernel
theorem dX8_draw_22 : decode cX8_draw 22 = .ok (.ldc2_w 222, 3) := by decide +kernel
theorem dX8_draw_25 : decode cX8_draw 25 = .ok (.lrem, 1) := by decide +kernel
theorem dX8_draw_26 : decode cX8_draw 26 = .ok (.l2i, 1) := by decide +kernel
theorem dX8_draw_27 : decode cX8_draw 27 = .ok (.iastore, 1) := by decide +kernel
theorem dX8_draw_28 : decode cX8_draw 28 = .ok (.aload_n 0, 1) := by decide +kernel
theorem dX8_draw_29 : decode cX8_draw 29 = .ok (.getfield 7, 3) := by decide +kernel
theorem dX8_draw_32 : decode cX8_draw 32 = .ok (.bipush 41, 2) := by decide +kernel
theorem dX8_draw_34 : decode cX8_draw 34 = .ok (.iaload, 1) := by decide +kernel
theorem dX8_draw_35 : decode cX8_draw 35 = .ok (.ldc 224, 2) := by decide +kernel
theorem dX8_draw_37 : decode cX8_draw 37 = .ok (.idiv, 1) := by decide +kernel
theorem dX8_draw_38 : decode cX8_draw 38 = .ok (.iload_n 1, 1) := by decide +kernel
theorem dX8_draw_39 : decode cX8_draw 39 = .ok (.irem, 1) := by decide +kernel
theorem dX8_draw_40 : decode cX8_draw 40 = .ok (.ireturn, 1) := by decide +kernel
theorem dX8_drift_0 : decode cX8_drift 0 = .ok (.iload_n 1, 1) := by decide +kernel
theorem dX8_drift_1 : decode cX8_drift 1 = .ok (.i2l, 1) := by decide +kernel
theorem dX8_drift_2 : decode cX8_drift 2 = .ok (.lconst 1, 1) := by decide +kernel
theorem dX8_drift_3 : decode cX8_drift 3 = .ok (.ldc2_w 225, 3) := by decide +kernel
theorem dX8_drift_6 : decode cX8_drift 6 = .ok (.invokestatic 70, 3) := by decide +kernel
theorem dX8_drift_9 : decode cX8_drift 9 = .ok (.ifCond .ne 6, 3) := by decide +kernel
theorem dX8_drift_12 : decode cX8_drift 12 = .ok (.ldc 79, 2) := by decide +kernel
theorem dX8_drift_14 : decode cX8_drift 14 = .ok (.ireturn, 1) := by decide +kernel
theorem dX8_drift_15 : decode cX8_drift 15 = .ok (.aload_n 0, 1) := by decide +kernel
theorem dX8_drift_16 : decode cX8_drift 16 = .ok (.invokevirtual 171, 3) := by decide +kernel
theorem dX8_drift_19 : decode cX8_drift 19 = .ok (.ifCond .eq 6, 3) := by decide +kernel
theorem dX8_drift_22 : decode cX8_drift 22 = .ok (.ldc 202, 2) := by decide +kernel
theorem dX8_drift_24 : decode cX8_drift 24 = .ok (.ireturn, 1) := by decide +kernel
theorem dX8_drift_25 : decode cX8_drift 25 = .ok (.aload_n 0, 1) := by decide +kernel
theorem dX8_drift_26 : decode cX8_drift 26 = .ok (.invokevirtual 205, 3) := by decide +kernel
theorem dX8_drift_29 : decode cX8_drift 29 = .ok (.iconst 0, 1) := by decide +kernel
theorem dX8_drift_30 : decode cX8_drift 30 = .ok (.istore_n 2, 1) := by decide +kernel
theorem dX8_drift_31 : decode cX8_drift 31 = .ok (.iload_n 2, 1) := by decide +kernel
theorem dX8_drift_32 : decode cX8_drift 32 = .ok (.iload_n 1, 1) := by decide +kernel
theorem dX8_drift_33 : decode cX8_drift 33 = .ok (.if_icmp .ge 52, 3) := by decide +kernel
theorem dX8_drift_36 : decode cX8_drift 36 = .ok (.aload_n 0, 1) := by decide +kernel
theorem dX8_drift_37 : decode cX8_drift 37 = .ok (.invokevirtual 171, 3) := by decide +kernel
theorem dX8_drift_40 : decode cX8_drift 40 = .ok (.ifCond .ne 45, 3) := by decide +kernel
theorem dX8_drift_43 : decode cX8_drift 43 = .ok (.aload_n 0, 1) := by decide +kernel
theorem dX8_drift_44 : decode cX8_drift 44 = .ok (.aload_n 0, 1) := by decide +kernel
theorem dX8_drift_45 : decode cX8_drift 45 = .ok (.getfield 7, 3) := by decide +kernel
theorem dX8_drift_48 : decode cX8_drift 48 = .ok (.iconst 0, 1) := by decide +kernel
theorem dX8_drift_49 : decode cX8_drift 49 = .ok (.iaload, 1) := by decide +kernel
theorem dX8_drift_50 : decode cX8_drift 50 = .ok (.aload_n 0, 1) := by decide +kernel
theorem dX8_drift_51 : decode cX8_drift 51 = .ok (.getfield 7, 3) := by decide +kernel
theorem dX8_drift_54 : decode cX8_drift 54 = .ok (.iconst 2, 1) := by decide +kernel
theorem dX8_drift_55 : decode cX8_drift 55 = .ok (.iaload, 1) := by decide +kernel
theorem dX8_drift_56 : decode cX8_drift 56 = .ok (.invokevirtual 184, 3) := by decide +kernel
theorem dX8_drift_59 : decode cX8_drift 59 = .ok (.istore_n 3, 1) := by decide +kernel
theorem dX8_drift_60 : decode cX8_drift 60 = .ok (.aload_n 0, 1) := by decide +kernel
theorem dX8_drift_61 : decode cX8_drift 61 = .ok (.aload_n 0, 1) := by decide +kernel
theorem dX8_drift_62 : decode cX8_drift 62 = .ok (.bipush 100, 2) := by decide +kernel
theorem dX8_drift_64 : decode cX8_drift 64 = .ok (.invokevirtual 227, 3) := by decide +kernel
theorem dX8_drift_67 : decode cX8_drift 67 = .ok (.iload_n 3, 1) := by decide +kernel
theorem dX8_drift_68 : decode cX8_drift 68 = .ok (.if_icmp .lt 7, 3) := by decide +kernel
theorem dX8_drift_71 : decode cX8_drift 71 = .ok (.iconst 1, 1) := by decide +kernel
theorem dX8_drift_72 : decode cX8_drift 72 = .ok (.goto 4, 3) := by decide +kernel
theorem dX8_drift_75 : decode cX8_drift 75 = .ok (.iconst 0, 1) := by decide +kernel
theorem dX8_drift_76 : decode cX8_drift 76 = .ok (.invokevirtual 214, 3) := by decide +kernel
theorem dX8_drift_79 : decode cX8_drift 79 = .ok (.iinc 2 1, 3) := by decide +kernel
theorem dX8_drift_82 : decode cX8_drift 82 = .ok (.goto (-51), 3) := by decide +kernel
theorem dX8_drift_85 : decode cX8_drift 85 = .ok (.aload_n 0, 1) := by decide +kernel
theorem dX8_drift_86 : decode cX8_drift 86 = .ok (.invokevirtual 171, 3) := by decide +kernel
theorem dX8_drift_89 : decode cX8_drift 89 = .ok (.ireturn, 1) := by decide +kernel
theorem dX8_isGone_0 : decode cX8_isGone 0 = .ok (.aload_n 0, 1) := by decide +kernel
theorem dX8_isGone_1 : decode cX8_isGone 1 = .ok (.getfield 63, 3) := by decide +kernel
theorem dX8_isGone_4 : decode cX8_isGone 4 = .ok (.ifCond .eq 13, 3) := by decide +kernel
theorem dX8_isGone_7 : decode cX8_isGone 7 = .ok (.aload_n 0, 1) := by decide +kernel
theorem dX8_isGone_8 : decode cX8_isGone 8 = .ok (.getfield 7, 3) := by decide +kernel
theorem dX8_isGone_11 : decode cX8_isGone 11 = .ok (.iconst 1, 1) := by decide +kernel
theorem dX8_isGone_12 : decode cX8_isGone 12 = .ok (.iaload, 1) := by decide +kernel
theorem dX8_isGone_13 : decode cX8_isGone 13 = .ok (.iconst 1, 1) := by decide +kernel
theorem dX8_isGone_14 : decode cX8_isGone 14 = .ok (.if_icmp .ne 7, 3) := by decide +kernel
theorem dX8_isGone_17 : decode cX8_isGone 17 = .ok (.iconst 1, 1) := by decide +kernel
theorem dX8_isGone_18 : decode cX8_isGone 18 = .ok (.goto 4, 3) := by decide +kernel
theorem dX8_isGone_21 : decode cX8_isGone 21 = .ok (.iconst 0, 1) := by decide +kernel
theorem dX8_isGone_22 : decode cX8_isGone 22 = .ok (.ireturn, 1) := by decide +kernel
theorem dX8_through_0 : decode cX8_through 0 = .ok (.ldc2_w 230, 3) := by decide +kernel
theorem dX8_through_3 : decode cX8_through 3 = .ok (.lstore 4, 2) := by decide +kernel
theorem dX8_through_5 : decode cX8_through 5 = .ok (.iload_n 3, 1) := by decide +kernel
theorem dX8_through_6 : decode cX8_through 6 = .ok (.istore 6, 2) := by decide +kernel
theorem dX8_through_8 : decode cX8_through 8 = .ok (.iload_n 1, 1) := by decide +kernel
theorem dX8_through_9 : decode cX8_through 9 = .ok (.istore 7, 2) := by decide +kernel
theorem dX8_through_11 : decode cX8_through 11 = .ok (.iload 7, 2) := by decide +kernel
theorem dX8_through_13 : decode cX8_through 13 = .ok (.iload_n 2, 1) := by decide +kernel
theorem dX8_through_14 : decode cX8_through 14 = .ok (.if_icmp .ge 45, 3) := by decide +kernel
theorem dX8_through_17 : decode cX8_through 17 = .ok (.lload 4, 2) := by decide +kernel
theorem dX8_through_19 : decode cX8_through 19 = .ok (.bipush 100, 2) := by decide +kernel
theorem dX8_through_21 : decode cX8_through 21 = .ok (.aload_n 0, 1) := by decide +kernel
theorem dX8_through_22 : decode cX8_through 22 = .ok (.iload 7, 2) := by decide +kernel
theorem dX8_through_24 : decode cX8_through 24 = .ok (.iload 6, 2) := by decide +kernel
theorem dX8_through_26 : decode cX8_through 26 = .ok (.invokevirtual 184, 3) := by decide +kernel
theorem dX8_through_29 : decode cX8_through 29 = .ok (.isub, 1) := by decide +kernel
theorem dX8_through_30 : decode cX8_through 30 = .ok (.i2l, 1) := by decide +kernel
theorem dX8_through_31 : decode cX8_through 31 = .ok (.lmul, 1) := by decide +kernel
theorem dX8_through_32 : decode cX8_through 32 = .ok (.ldc2_w 232, 3) := by decide +kernel
theorem dX8_through_35 : decode cX8_through 35 = .ok (.ldiv, 1) := by decide +kernel
theorem dX8_through_36 : decode cX8_through 36 = .ok (.lstore 4, 2) := by decide +kernel
theorem dX8_through_38 : decode cX8_through 38 = .ok (.iload 6, 2) := by decide +kernel
theorem dX8_through_40 : decode cX8_through 40 = .ok (.iload 6, 2) := by decide +kernel
theorem dX8_through_42 : decode cX8_through 42 = .ok (.ifCond .le 7, 3) := by decide +kernel
theorem dX8_through_45 : decode cX8_through 45 = .ok (.iconst 1, 1) := by decide +kernel
theorem dX8_through_46 : decode cX8_through 46 = .ok (.goto 4, 3) := by decide +kernel
theorem dX8_through_49 : decode cX8_through 49 = .ok (.iconst 0, 1) := by decide +kernel
theorem dX8_through_50 : decode cX8_through 50 = .ok (.isub, 1) := by decide +kernel
theorem dX8_through_51 : decode cX8_through 51 = .ok (.istore 6, 2) := by decide +kernel
theorem dX8_through_53 : decode cX8_through 53 = .ok (.iinc 7 1, 3) := by decide +kernel
theorem dX8_through_56 : decode cX8_through 56 = .ok (.goto (-45), 3) := by decide +kernel
theorem dX8_through_59 : decode cX8_through 59 = .ok (.lload 4, 2) := by decide +kernel
theorem dX8_through_61 : decode cX8_through 61 = .ok (.lreturn, 1) := by decide +kernel
theorem dX8_homeNow_0 : decode cX8_homeNow 0 = .ok (.aload_n 0, 1) := by decide +kernel
theorem dX8_homeNow_1 : decode cX8_homeNow 1 = .ok (.aload_n 0, 1) := by decide +kernel
theorem dX8_homeNow_2 : decode cX8_homeNow 2 = .ok (.getfield 7, 3) := by decide +kernel
theorem dX8_homeNow_5 : decode cX8_homeNow 5 = .ok (.iconst 0, 1) := by decide +kernel
theorem dX8_homeNow_6 : decode cX8_homeNow 6 = .ok (.iaload, 1) := by decide +kernel
theorem dX8_homeNow_7 : decode cX8_homeNow 7 = .ok (.aload_n 0, 1) := by decide +kernel
theorem dX8_homeNow_8 : decode cX8_homeNow 8 = .ok (.getfield 67, 3) := by decide +kernel
theorem dX8_homeNow_11 : decode cX8_homeNow 11 = .ok (.aload_n 0, 1) := by decide +kernel
theorem dX8_homeNow_12 : decode cX8_homeNow 12 = .ok (.getfield 7, 3) := by decide +kernel
theorem dX8_homeNow_15 : decode cX8_homeNow 15 = .ok (.iconst 2, 1) := by decide +kernel
theorem dX8_homeNow_16 : decode cX8_homeNow 16 = .ok (.iaload, 1) := by decide +kernel
theorem dX8_homeNow_17 : decode cX8_homeNow 17 = .ok (.invokevirtual 234, 3) := by decide +kernel
theorem dX8_homeNow_20 : decode cX8_homeNow 20 = .ok (.lreturn, 1) := by decide +kernel
theorem dX8_comesHome_0 : decode cX8_comesHome 0 = .ok (.aload_n 0, 1) := by decide +kernel
theorem dX8_comesHome_1 : decode cX8_comesHome 1 = .ok (.invokevirtual 238, 3) := by decide +kernel
theorem dX8_comesHome_4 : decode cX8_comesHome 4 = .ok (.ifCond .eq 8, 3) := by decide +kernel
theorem dX8_comesHome_7 : decode cX8_comesHome 7 = .ok (.ldc 202, 2) := by decide +kernel
theorem dX8_comesHome_9 : decode cX8_comesHome 9 = .ok (.goto 8, 3) := by decide +kernel
theorem dX8_comesHome_12 : decode cX8_comesHome 12 = .ok (.aload_n 0, 1) := by decide +kernel
theorem dX8_comesHome_13 : decode cX8_comesHome 13 = .ok (.invokevirtual 241, 3) := by decide +kernel
theorem dX8_comesHome_16 : decode cX8_comesHome 16 = .ok (.l2i, 1) := by decide +kernel
theorem dX8_comesHome_17 : decode cX8_comesHome 17 = .ok (.ireturn, 1) := by decide +kernel
theorem dX8_rateNow_0 : decode cX8_rateNow 0 = .ok (.aload_n 0, 1) := by decide +kernel
theorem dX8_rateNow_1 : decode cX8_rateNow 1 = .ok (.invokevirtual 241, 3) := by decide +kernel
theorem dX8_rateNow_4 : decode cX8_rateNow 4 = .ok (.lstore_n 1, 1) := by decide +kernel
theorem dX8_rateNow_5 : decode cX8_rateNow 5 = .ok (.iconst 0, 1) := by decide +kernel
theorem dX8_rateNow_6 : decode cX8_rateNow 6 = .ok (.istore_n 3, 1) := by decide +kernel
theorem dX8_rateNow_7 : decode cX8_rateNow 7 = .ok (.iload_n 3, 1) := by decide +kernel
theorem dX8_rateNow_8 : decode cX8_rateNow 8 = .ok (.sipush 999, 3) := by decide +kernel
theorem dX8_rateNow_11 : decode cX8_rateNow 11 = .ok (.if_icmp .gt 25, 3) := by decide +kernel
theorem dX8_rateNow_14 : decode cX8_rateNow 14 = .ok (.bipush 100, 2) := by decide +kernel
theorem dX8_rateNow_16 : decode cX8_rateNow 16 = .ok (.iload_n 3, 1) := by decide +kernel
theorem dX8_rateNow_17 : decode cX8_rateNow 17 = .ok (.iadd, 1) := by decide +kernel
theorem dX8_rateNow_18 : decode cX8_rateNow 18 = .ok (.i2l, 1) := by decide +kernel
theorem dX8_rateNow_19 : decode cX8_rateNow 19 = .ok (.lload_n 1, 1) := by decide +kernel
theorem dX8_rateNow_20 : decode cX8_rateNow 20 = .ok (.lmul, 1) := by decide +kernel
theorem dX8_rateNow_21 : decode cX8_rateNow 21 = .ok (.ldc2_w 245, 3) := by decide +kernel
theorem dX8_rateNow_24 : decode cX8_rateNow 24 = .ok (.lcmp, 1) := by decide +kernel
theorem dX8_rateNow_25 : decode cX8_rateNow 25 = .ok (.ifCond .lt 5, 3) := by decide +kernel
theorem dX8_rateNow_28 : decode cX8_rateNow 28 = .ok (.iload_n 3, 1) := by decide +kernel
theorem dX8_rateNow_29 : decode cX8_rateNow 29 = .ok (.ireturn, 1) := by decide +kernel
theorem dX8_rateNow_30 : decode cX8_rateNow 30 = .ok (.iinc 3 1, 3) := by decide +kernel
theorem dX8_rateNow_33 : decode cX8_rateNow 33 = .ok (.goto (-26), 3) := by decide +kernel
theorem dX8_rateNow_36 : decode cX8_rateNow 36 = .ok (.iconst (-1), 1) := by decide +kernel
theorem dX8_rateNow_37 : decode cX8_rateNow 37 = .ok (.ireturn, 1) := by decide +kernel
theorem dX8_rate_0 : decode cX8_rate 0 = .ok (.aload_n 0, 1) := by decide +kernel
theorem dX8_rate_1 : decode cX8_rate 1 = .ok (.invokevirtual 238, 3) := by decide +kernel
theorem dX8_rate_4 : decode cX8_rate 4 = .ok (.ifCond .eq 8, 3) := by decide +kernel
theorem dX8_rate_7 : decode cX8_rate 7 = .ok (.ldc 202, 2) := by decide +kernel
theorem dX8_rate_9 : decode cX8_rate 9 = .ok (.goto 7, 3) := by decide +kernel
theorem dX8_rate_12 : decode cX8_rate 12 = .ok (.aload_n 0, 1) := by decide +kernel
theorem dX8_rate_13 : decode cX8_rate 13 = .ok (.invokevirtual 247, 3) := by decide +kernel
theorem dX8_rate_16 : decode cX8_rate 16 = .ok (.ireturn, 1) := by decide +kernel
theorem dX8_willing_0 : decode cX8_willing 0 = .ok (.aload_n 0, 1) := by decide +kernel
theorem dX8_willing_1 : decode cX8_willing 1 = .ok (.invokevirtual 238, 3) := by decide +kernel
theorem dX8_willing_4 : decode cX8_willing 4 = .ok (.ifCond .eq 6, 3) := by decide +kernel
theorem dX8_willing_7 : decode cX8_willing 7 = .ok (.ldc 202, 2) := by decide +kernel
theorem dX8_willing_9 : decode cX8_willing 9 = .ok (.ireturn, 1) := by decide +kernel
theorem dX8_willing_10 : decode cX8_willing 10 = .ok (.aload_n 0, 1) := by decide +kernel
theorem dX8_willing_11 : decode cX8_willing 11 = .ok (.invokevirtual 247, 3) := by decide +kernel
theorem dX8_willing_14 : decode cX8_willing 14 = .ok (.istore_n 1, 1) := by decide +kernel
theorem dX8_willing_15 : decode cX8_willing 15 = .ok (.iconst 0, 1) := by decide +kernel
theorem dX8_willing_16 : decode cX8_willing 16 = .ok (.istore_n 2, 1) := by decide +kernel
theorem dX8_willing_17 : decode cX8_willing 17 = .ok (.iconst 0, 1) := by decide +kernel
theorem dX8_willing_18 : decode cX8_willing 18 = .ok (.istore_n 3, 1) := by decide +kernel
theorem dX8_willing_19 : decode cX8_willing 19 = .ok (.iload_n 3, 1) := by decide +kernel
theorem dX8_willing_20 : decode cX8_willing 20 = .ok (.aload_n 0, 1) := by decide +kernel
theorem dX8_willing_21 : decode cX8_willing 21 = .ok (.getfield 74, 3) := by decide +kernel
theorem dX8_willing_24 : decode cX8_willing 24 = .ok (.if_icmp .ge 34, 3) := by decide +kernel
theorem dX8_willing_27 : decode cX8_willing 27 = .ok (.iload_n 1, 1) := by decide +kernel
theorem dX8_willing_28 : decode cX8_willing 28 = .ok (.iconst (-1), 1) := by decide +kernel
theorem dX8_willing_29 : decode cX8_willing 29 = .ok (.if_icmp .eq 29, 3) := by decide +kernel
theorem dX8_willing_32 : decode cX8_willing 32 = .ok (.iload_n 2, 1) := by decide +kernel
theorem dX8_willing_33 : decode cX8_willing 33 = .ok (.aload_n 0, 1) := by decide +kernel
theorem dX8_willing_34 : decode cX8_willing 34 = .ok (.getfield 29, 3) := by decide +kernel
theorem dX8_willing_37 : decode cX8_willing 37 = .ok (.iload_n 3, 1) := by decide +kernel
theorem dX8_willing_38 : decode cX8_willing 38 = .ok (.iaload, 1) := by decide +kernel
theorem dX8_willing_39 : decode cX8_willing 39 = .ok (.iload_n 1, 1) := by decide +kernel
theorem dX8_willing_40 : decode cX8_willing 40 = .ok (.if_icmp .lt 9, 3) := by decide +kernel
theorem dX8_willing_43 : decode cX8_willing 43 = .ok (.iconst 1, 1) := by decide +kernel
theorem dX8_willing_44 : decode cX8_willing 44 = .ok (.iload_n 3, 1) := by decide +kernel
theorem dX8_willing_45 : decode cX8_willing 45 = .ok (.ishl, 1) := by decide +kernel
theorem dX8_willing_46 : decode cX8_willing 46 = .ok (.goto 4, 3) := by decide +kernel
theorem dX8_willing_49 : decode cX8_willing 49 = .ok (.iconst 0, 1) := by decide +kernel
theorem dX8_willing_50 : decode cX8_willing 50 = .ok (.ior, 1) := by decide +kernel
theorem dX8_willing_51 : decode cX8_willing 51 = .ok (.istore_n 2, 1) := by decide +kernel
theorem dX8_willing_52 : decode cX8_willing 52 = .ok (.iinc 3 1, 3) := by decide +kernel
theorem dX8_willing_55 : decode cX8_willing 55 = .ok (.goto (-36), 3) := by decide +kernel
theorem dX8_willing_58 : decode cX8_willing 58 = .ok (.iload_n 2, 1) := by decide +kernel
theorem dX8_willing_59 : decode cX8_willing 59 = .ok (.ireturn, 1) := by decide +kernel
theorem dX8_paid_0 : decode cX8_paid 0 = .ok (.aload_n 0, 1) := by decide +kernel
theorem dX8_paid_1 : decode cX8_paid 1 = .ok (.iload_n 1, 1) := by decide +kernel
theorem dX8_paid_2 : decode cX8_paid 2 = .ok (.invokevirtual 193, 3) := by decide +kernel
theorem dX8_paid_5 : decode cX8_paid 5 = .ok (.ifCond .ne 6, 3) := by decide +kernel
theorem dX8_paid_8 : decode cX8_paid 8 = .ok (.ldc 183, 2) := by decide +kernel
theorem dX8_paid_10 : decode cX8_paid 10 = .ok (.ireturn, 1) := by decide +kernel
theorem dX8_paid_11 : decode cX8_paid 11 = .ok (.aload_n 0, 1) := by decide +kernel
theorem dX8_paid_12 : decode cX8_paid 12 = .ok (.invokevirtual 238, 3) := by decide +kernel
theorem dX8_paid_15 : decode cX8_paid 15 = .ok (.ifCond .eq 6, 3) := by decide +kernel
theorem dX8_paid_18 : decode cX8_paid 18 = .ok (.ldc 202, 2) := by decide +kernel
theorem dX8_paid_20 : decode cX8_paid 20 = .ok (.ireturn, 1) := by decide +kernel
theorem dX8_paid_21 : decode cX8_paid 21 = .ok (.aload_n 0, 1) := by decide +kernel
theorem dX8_paid_22 : decode cX8_paid 22 = .ok (.iconst 0, 1) := by decide +kernel
theorem dX8_paid_23 : decode cX8_paid 23 = .ok (.aload_n 0, 1) := by decide +kernel
theorem dX8_paid_24 : decode cX8_paid 24 = .ok (.getfield 141, 3) := by decide +kernel
theorem dX8_paid_27 : decode cX8_paid 27 = .ok (.invokevirtual 167, 3) := by decide +kernel
theorem dX8_paid_30 : decode cX8_paid 30 = .ok (.aload_n 0, 1) := by decide +kernel
theorem dX8_paid_31 : decode cX8_paid 31 = .ok (.getfield 48, 3) := by decide +kernel
theorem dX8_paid_34 : decode cX8_paid 34 = .ok (.iload_n 1, 1) := by decide +kernel
theorem dX8_paid_35 : decode cX8_paid 35 = .ok (.iaload, 1) := by decide +kernel
theorem dX8_paid_36 : decode cX8_paid 36 = .ok (.ireturn, 1) := by decide +kernel
theorem dX8_hurt_0 : decode cX8_hurt 0 = .ok (.aload_n 0, 1) := by decide +kernel
theorem dX8_hurt_1 : decode cX8_hurt 1 = .ok (.iload_n 1, 1) := by decide +kernel
theorem dX8_hurt_2 : decode cX8_hurt 2 = .ok (.invokevirtual 187, 3) := by decide +kernel
theorem dX8_hurt_5 : decode cX8_hurt 5 = .ok (.ifCond .ne 6, 3) := by decide +kernel
theorem dX8_hurt_8 : decode cX8_hurt 8 = .ok (.ldc 183, 2) := by decide +kernel
theorem dX8_hurt_10 : decode cX8_hurt 10 = .ok (.ireturn, 1) := by decide +kernel
theorem dX8_hurt_11 : decode cX8_hurt 11 = .ok (.iload_n 2, 1) := by decide +kernel
theorem dX8_hurt_12 : decode cX8_hurt 12 = .ok (.i2l, 1) := by decide +kernel
theorem dX8_hurt_13 : decode cX8_hurt 13 = .ok (.lconst 1, 1) := by decide +kernel
theorem dX8_hurt_14 : decode cX8_hurt 14 = .ok (.ldc2_w 203, 3) := by decide +kernel
theorem dX8_hurt_17 : decode cX8_hurt 17 = .ok (.invokestatic 70, 3) := by decide +kernel
theorem dX8_hurt_20 : decode cX8_hurt 20 = .ok (.ifCond .ne 6, 3) := by decide +kernel
theorem dX8_hurt_23 : decode cX8_hurt 23 = .ok (.ldc 79, 2) := by decide +kernel
theorem dX8_hurt_25 : decode cX8_hurt 25 = .ok (.ireturn, 1) := by decide +kernel
theorem dX8_hurt_26 : decode cX8_hurt 26 = .ok (.aload_n 0, 1) := by decide +kernel
theorem dX8_hurt_27 : decode cX8_hurt 27 = .ok (.invokevirtual 238, 3) := by decide +kernel
theorem dX8_hurt_30 : decode cX8_hurt 30 = .ok (.ifCond .eq 6, 3) := by decide +kernel
theorem dX8_hurt_33 : decode cX8_hurt 33 = .ok (.ldc 202, 2) := by decide +kernel
theorem dX8_hurt_35 : decode cX8_hurt 35 = .ok (.ireturn, 1) := by decide +kernel
theorem dX8_hurt_36 : decode cX8_hurt 36 = .ok (.aload_n 0, 1) := by decide +kernel
theorem dX8_hurt_37 : decode cX8_hurt 37 = .ok (.iconst 0, 1) := by decide +kernel
theorem dX8_hurt_38 : decode cX8_hurt 38 = .ok (.aload_n 0, 1) := by decide +kernel
theorem dX8_hurt_39 : decode cX8_hurt 39 = .ok (.getfield 141, 3) := by decide +kernel
theorem dX8_hurt_42 : decode cX8_hurt 42 = .ok (.invokevirtual 167, 3) := by decide +kernel
theorem dX8_hurt_45 : decode cX8_hurt 45 = .ok (.iconst 0, 1) := by decide +kernel
theorem dX8_hurt_46 : decode cX8_hurt 46 = .ok (.istore 4, 2) := by decide +kernel
theorem dX8_hurt_48 : decode cX8_hurt 48 = .ok (.iload 4, 2) := by decide +kernel
theorem dX8_hurt_50 : decode cX8_hurt 50 = .ok (.aload_n 0, 1) := by decide +kernel
theorem dX8_hurt_51 : decode cX8_hurt 51 = .ok (.getfield 7, 3) := by decide +kernel
theorem dX8_hurt_54 : decode cX8_hurt 54 = .ok (.iconst 4, 1) := by decide +kernel
theorem dX8_hurt_55 : decode cX8_hurt 55 = .ok (.iaload, 1) := by decide +kernel
theorem dX8_hurt_56 : decode cX8_hurt 56 = .ok (.if_icmp .ge 23, 3) := by decide +kernel
theorem dX8_hurt_59 : decode cX8_hurt 59 = .ok (.aload_n 0, 1) := by decide +kernel
theorem dX8_hurt_60 : decode cX8_hurt 60 = .ok (.getfield 51, 3) := by decide +kernel
theorem dX8_hurt_63 : decode cX8_hurt 63 = .ok (.iload 4, 2) := by decide +kernel
theorem dX8_hurt_65 : decode cX8_hurt 65 = .ok (.aload_n 0, 1) := by decide +kernel
theorem dX8_hurt_66 : decode cX8_hurt 66 = .ok (.getfield 48, 3) := by decide +kernel
theorem dX8_hurt_69 : decode cX8_hurt 69 = .ok (.iload 4, 2) := by decide +kernel
theorem dX8_hurt_71 : decode cX8_hurt 71 = .ok (.iaload, 1) := by decide +kernel
theorem dX8_hurt_72 : decode cX8_hurt 72 = .ok (.iastore, 1) := by decide +kernel
theorem dX8_hurt_73 : decode cX8_hurt 73 = .ok (.iinc 4 1, 3) := by decide +kernel
theorem dX8_hurt_76 : decode cX8_hurt 76 = .ok (.goto (-28), 3) := by decide +kernel
theorem dX8_hurt_79 : decode cX8_hurt 79 = .ok (.aload_n 0, 1) := by decide +kernel
theorem dX8_hurt_80 : decode cX8_hurt 80 = .ok (.iconst 0, 1) := by decide +kernel
theorem dX8_hurt_81 : decode cX8_hurt 81 = .ok (.bipush 42, 2) := by decide +kernel
theorem dX8_hurt_83 : decode cX8_hurt 83 = .ok (.invokevirtual 199, 3) := by decide +kernel
theorem dX8_hurt_86 : decode cX8_hurt 86 = .ok (.aload_n 0, 1) := by decide +kernel
theorem dX8_hurt_87 : decode cX8_hurt 87 = .ok (.bipush 42, 2) := by decide +kernel
theorem dX8_hurt_89 : decode cX8_hurt 89 = .ok (.iload_n 1, 1) := by decide +kernel
theorem dX8_hurt_90 : decode cX8_hurt 90 = .ok (.iload_n 2, 1) := by decide +kernel
theorem dX8_hurt_91 : decode cX8_hurt 91 = .ok (.iload_n 3, 1) := by decide +kernel
theorem dX8_hurt_92 : decode cX8_hurt 92 = .ok (.invokevirtual 208, 3) := by decide +kernel
theorem dX8_hurt_95 : decode cX8_hurt 95 = .ok (.aload_n 0, 1) := by decide +kernel
theorem dX8_hurt_96 : decode cX8_hurt 96 = .ok (.bipush 42, 2) := by decide +kernel
theorem dX8_hurt_98 : decode cX8_hurt 98 = .ok (.aload_n 0, 1) := by decide +kernel
theorem dX8_hurt_99 : decode cX8_hurt 99 = .ok (.getfield 141, 3) := by decide +kernel
theorem dX8_hurt_102 : decode cX8_hurt 102 = .ok (.invokevirtual 167, 3) := by decide +kernel
theorem dX8_hurt_105 : decode cX8_hurt 105 = .ok (.iconst 0, 1) := by decide +kernel
theorem dX8_hurt_106 : decode cX8_hurt 106 = .ok (.istore 4, 2) := by decide +kernel
theorem dX8_hurt_108 : decode cX8_hurt 108 = .ok (.iconst 0, 1) := by decide +kernel
theorem dX8_hurt_109 : decode cX8_hurt 109 = .ok (.istore 5, 2) := by decide +kernel
theorem dX8_hurt_111 : decode cX8_hurt 111 = .ok (.iload 5, 2) := by decide +kernel
theorem dX8_hurt_113 : decode cX8_hurt 113 = .ok (.aload_n 0, 1) := by decide +kernel
theorem dX8_hurt_114 : decode cX8_hurt 114 = .ok (.getfield 7, 3) := by decide +kernel
theorem dX8_hurt_117 : decode cX8_hurt 117 = .ok (.iconst 4, 1) := by decide +kernel
theorem dX8_hurt_118 : decode cX8_hurt 118 = .ok (.iaload, 1) := by decide +kernel
theorem dX8_hurt_119 : decode cX8_hurt 119 = .ok (.if_icmp .ge 39, 3) := by decide +kernel
theorem dX8_hurt_122 : decode cX8_hurt 122 = .ok (.iload 4, 2) := by decide +kernel
theorem dX8_hurt_124 : decode cX8_hurt 124 = .ok (.aload_n 0, 1) := by decide +kernel
theorem dX8_hurt_125 : decode cX8_hurt 125 = .ok (.getfield 48, 3) := by decide +kernel
theorem dX8_hurt_128 : decode cX8_hurt 128 = .ok (.iload 5, 2) := by decide +kernel
theorem dX8_hurt_130 : decode cX8_hurt 130 = .ok (.iaload, 1) := by decide +kernel
theorem dX8_hurt_131 : decode cX8_hurt 131 = .ok (.aload_n 0, 1) := by decide +kernel
theorem dX8_hurt_132 : decode cX8_hurt 132 = .ok (.getfield 51, 3) := by decide +kernel
theorem dX8_hurt_135 : decode cX8_hurt 135 = .ok (.iload 5, 2) := by decide +kernel
theorem dX8_hurt_137 : decode cX8_hurt 137 = .ok (.iaload, 1) := by decide +kernel
theorem dX8_hurt_138 : decode cX8_hurt 138 = .ok (.if_icmp .ge 10, 3) := by decide +kernel
theorem dX8_hurt_141 : decode cX8_hurt 141 = .ok (.iconst 1, 1) := by decide +kernel
theorem dX8_hurt_142 : decode cX8_hurt 142 = .ok (.iload 5, 2) := by decide +kernel
theorem dX8_hurt_144 : decode cX8_hurt 144 = .ok (.ishl, 1) := by decide +kernel
theorem dX8_hurt_145 : decode cX8_hurt 145 = .ok (.goto 4, 3) := by decide +kernel
theorem dX8_hurt_148 : decode cX8_hurt 148 = .ok (.iconst 0, 1) := by decide +kernel
theorem dX8_hurt_149 : decode cX8_hurt 149 = .ok (.ior, 1) := by decide +kernel
theorem dX8_hurt_150 : decode cX8_hurt 150 = .ok (.istore 4, 2) := by decide +kernel
theorem dX8_hurt_152 : decode cX8_hurt 152 = .ok (.iinc 5 1, 3) := by decide +kernel
theorem dX8_hurt_155 : decode cX8_hurt 155 = .ok (.goto (-44), 3) := by decide +kernel
theorem dX8_hurt_158 : decode cX8_hurt 158 = .ok (.iload 4, 2) := by decide +kernel
theorem dX8_hurt_160 : decode cX8_hurt 160 = .ok (.ireturn, 1) := by decide +kernel
theorem dX8_share_0 : decode cX8_share 0 = .ok (.aload_n 0, 1) := by decide +kernel
theorem dX8_share_1 : decode cX8_share 1 = .ok (.iload_n 1, 1) := by decide +kernel
theorem dX8_share_2 : decode cX8_share 2 = .ok (.invokevirtual 193, 3) := by decide +kernel
theorem dX8_share_5 : decode cX8_share 5 = .ok (.ifCond .ne 6, 3) := by decide +kernel
theorem dX8_share_8 : decode cX8_share 8 = .ok (.ldc 183, 2) := by decide +kernel
theorem dX8_share_10 : decode cX8_share 10 = .ok (.ireturn, 1) := by decide +kernel
theorem dX8_share_11 : decode cX8_share 11 = .ok (.iload_n 2, 1) := by decide +kernel
theorem dX8_share_12 : decode cX8_share 12 = .ok (.i2l, 1) := by decide +kernel
theorem dX8_share_13 : decode cX8_share 13 = .ok (.lconst 0, 1) := by decide +kernel
theorem dX8_share_14 : decode cX8_share 14 = .ok (.ldc2_w 203, 3) := by decide +kernel
theorem dX8_share_17 : decode cX8_share 17 = .ok (.invokestatic 70, 3) := by decide +kernel
theorem dX8_share_20 : decode cX8_share 20 = .ok (.ifCond .ne 6, 3) := by decide +kernel
theorem dX8_share_23 : decode cX8_share 23 = .ok (.ldc 79, 2) := by decide +kernel
theorem dX8_share_25 : decode cX8_share 25 = .ok (.ireturn, 1) := by decide +kernel
theorem dX8_share_26 : decode cX8_share 26 = .ok (.aload_n 0, 1) := by decide +kernel
theorem dX8_share_27 : decode cX8_share 27 = .ok (.iconst 0, 1) := by decide +kernel
theorem dX8_share_28 : decode cX8_share 28 = .ok (.iconst 0, 1) := by decide +kernel
theorem dX8_share_29 : decode cX8_share 29 = .ok (.iload_n 2, 1) := by decide +kernel
theorem dX8_share_30 : decode cX8_share 30 = .ok (.invokevirtual 160, 3) := by decide +kernel
theorem dX8_share_33 : decode cX8_share 33 = .ok (.pop, 1) := by decide +kernel
theorem dX8_share_34 : decode cX8_share 34 = .ok (.aload_n 0, 1) := by decide +kernel
theorem dX8_share_35 : decode cX8_share 35 = .ok (.getfield 7, 3) := by decide +kernel
theorem dX8_share_38 : decode cX8_share 38 = .ok (.bipush 23, 2) := by decide +kernel
theorem dX8_share_40 : decode cX8_share 40 = .ok (.iload_n 1, 1) := by decide +kernel
theorem dX8_share_41 : decode cX8_share 41 = .ok (.iadd, 1) := by decide +kernel
theorem dX8_share_42 : decode cX8_share 42 = .ok (.iaload, 1) := by decide +kernel
theorem dX8_share_43 : decode cX8_share 43 = .ok (.iconst 1, 1) := by decide +kernel
theorem dX8_share_44 : decode cX8_share 44 = .ok (.if_icmp .ne 7, 3) := by decide +kernel
theorem dX8_share_47 : decode cX8_share 47 = .ok (.iconst 0, 1) := by decide +kernel
theorem dX8_share_48 : decode cX8_share 48 = .ok (.goto 9, 3) := by decide +kernel
theorem dX8_share_51 : decode cX8_share 51 = .ok (.aload_n 0, 1) := by decide +kernel
theorem dX8_share_52 : decode cX8_share 52 = .ok (.getfield 48, 3) := by decide +kernel
theorem dX8_share_55 : decode cX8_share 55 = .ok (.iload_n 1, 1) := by decide +kernel
theorem dX8_share_56 : decode cX8_share 56 = .ok (.iaload, 1) := by decide +kernel
theorem dX8_share_57 : decode cX8_share 57 = .ok (.ireturn, 1) := by decide +kernel
theorem dX8_findPlan_0 : decode cX8_findPlan 0 = .ok (.aload_n 0, 1) := by decide +kernel
theorem dX8_findPlan_1 : decode cX8_findPlan 1 = .ok (.getfield 67, 3) := by decide +kernel
theorem dX8_findPlan_4 : decode cX8_findPlan 4 = .ok (.aload_n 0, 1) := by decide +kernel
theorem dX8_findPlan_5 : decode cX8_findPlan 5 = .ok (.getfield 7, 3) := by decide +kernel
theorem dX8_findPlan_8 : decode cX8_findPlan 8 = .ok (.iconst 0, 1) := by decide +kernel
theorem dX8_findPlan_9 : decode cX8_findPlan 9 = .ok (.iaload, 1) := by decide +kernel
theorem dX8_findPlan_10 : decode cX8_findPlan 10 = .ok (.isub, 1) := by decide +kernel
theorem dX8_findPlan_11 : decode cX8_findPlan 11 = .ok (.istore_n 1, 1) := by decide +kernel
theorem dX8_findPlan_12 : decode cX8_findPlan 12 = .ok (.iconst 1, 1) := by decide +kernel
theorem dX8_findPlan_13 : decode cX8_findPlan 13 = .ok (.istore_n 2, 1) := by decide +kernel
theorem dX8_findPlan_14 : decode cX8_findPlan 14 = .ok (.iconst 0, 1) := by decide +kernel
theorem dX8_findPlan_15 : decode cX8_findPlan 15 = .ok (.istore_n 3, 1) := by decide +kernel
theorem dX8_findPlan_16 : decode cX8_findPlan 16 = .ok (.iload_n 3, 1) := by decide +kernel
theorem dX8_findPlan_17 : decode cX8_findPlan 17 = .ok (.iload_n 1, 1) := by decide +kernel
theorem dX8_findPlan_18 : decode cX8_findPlan 18 = .ok (.if_icmp .ge 13, 3) := by decide +kernel
theorem dX8_findPlan_21 : decode cX8_findPlan 21 = .ok (.iload_n 2, 1) := by decide +kernel
theorem dX8_findPlan_22 : decode cX8_findPlan 22 = .ok (.iconst 3, 1) := by decide +kernel
theorem dX8_findPlan_23 : decode cX8_findPlan 23 = .ok (.imul, 1) := by decide +kernel
theorem dX8_findPlan_24 : decode cX8_findPlan 24 = .ok (.istore_n 2, 1) := by decide +kernel
theorem dX8_findPlan_25 : decode cX8_findPlan 25 = .ok (.iinc 3 1, 3) := by decide +kernel
theorem dX8_findPlan_28 : decode cX8_findPlan 28 = .ok (.goto (-12), 3) := by decide +kernel
theorem dX8_findPlan_31 : decode cX8_findPlan 31 = .ok (.aload_n 0, 1) := by decide +kernel
theorem dX8_findPlan_32 : decode cX8_findPlan 32 = .ok (.iconst 0, 1) := by decide +kernel
theorem dX8_findPlan_33 : decode cX8_findPlan 33 = .ok (.putfield 250, 3) := by decide +kernel
theorem dX8_findPlan_36 : decode cX8_findPlan 36 = .ok (.aload_n 0, 1) := by decide +kernel
theorem dX8_findPlan_37 : decode cX8_findPlan 37 = .ok (.ldc2_w 253, 3) := by decide +kernel
theorem dX8_findPlan_40 : decode cX8_findPlan 40 = .ok (.putfield 255, 3) := by decide +kernel
theorem dX8_findPlan_43 : decode cX8_findPlan 43 = .ok (.iconst 0, 1) := by decide +kernel
theorem dX8_findPlan_44 : decode cX8_findPlan 44 = .ok (.istore_n 3, 1) := by decide +kernel
theorem dX8_findPlan_45 : decode cX8_findPlan 45 = .ok (.iload_n 3, 1) := by decide +kernel
theorem dX8_findPlan_46 : decode cX8_findPlan 46 = .ok (.iload_n 2, 1) := by decide +kernel
theorem dX8_findPlan_47 : decode cX8_findPlan 47 = .ok (.if_icmp .ge 254, 3) := by decide +kernel
theorem dX8_findPlan_50 : decode cX8_findPlan 50 = .ok (.iload_n 2, 1) := by decide +kernel
theorem dX8_findPlan_51 : decode cX8_findPlan 51 = .ok (.istore 4, 2) := by decide +kernel
theorem dX8_findPlan_53 : decode cX8_findPlan 53 = .ok (.aload_n 0, 1) := by decide +kernel
theorem dX8_findPlan_54 : decode cX8_findPlan 54 = .ok (.getfield 7, 3) := by decide +kernel
theorem dX8_findPlan_57 : decode cX8_findPlan 57 = .ok (.iconst 2, 1) := by decide +kernel
theorem dX8_findPlan_58 : decode cX8_findPlan 58 = .ok (.iaload, 1) := by decide +kernel
theorem dX8_findPlan_59 : decode cX8_findPlan 59 = .ok (.istore 5, 2) := by decide +kernel
theorem dX8_findPlan_61 : decode cX8_findPlan 61 = .ok (.aload_n 0, 1) := by decide +kernel
theorem dX8_findPlan_62 : decode cX8_findPlan 62 = .ok (.getfield 7, 3) := by decide +kernel
theorem dX8_findPlan_65 : decode cX8_findPlan 65 = .ok (.iconst 3, 1) := by decide +kernel
theorem dX8_findPlan_66 : decode cX8_findPlan 66 = .ok (.iaload, 1) := by decide +kernel
theorem dX8_findPlan_67 : decode cX8_findPlan 67 = .ok (.istore 6, 2) := by decide +kernel
theorem dX8_findPlan_69 : decode cX8_findPlan 69 = .ok (.ldc2_w 230, 3) := by decide +kernel
theorem dX8_findPlan_72 : decode cX8_findPlan 72 = .ok (.lstore 7, 2) := by decide +kernel
theorem dX8_findPlan_74 : decode cX8_findPlan 74 = .ok (.iconst 1, 1) := by decide +kernel
theorem dX8_findPlan_75 : decode cX8_findPlan 75 = .ok (.istore 9, 2) := by decide +kernel
theorem dX8_findPlan_77 : decode cX8_findPlan 77 = .ok (.aload_n 0, 1) := by decide +kernel
theorem dX8_findPlan_78 : decode cX8_findPlan 78 = .ok (.getfield 7, 3) := by decide +kernel
theorem dX8_findPlan_81 : decode cX8_findPlan 81 = .ok (.iconst 0, 1) := by decide +kernel
theorem dX8_findPlan_82 : decode cX8_findPlan 82 = .ok (.iaload, 1) := by decide +kernel
theorem dX8_findPlan_83 : decode cX8_findPlan 83 = .ok (.istore 10, 2) := by decide +kernel
theorem dX8_findPlan_85 : decode cX8_findPlan 85 = .ok (.iload 10, 2) := by decide +kernel
theorem dX8_findPlan_87 : decode cX8_findPlan 87 = .ok (.aload_n 0, 1) := by decide +kernel
theorem dX8_findPlan_88 : decode cX8_findPlan 88 = .ok (.getfield 67, 3) := by decide +kernel
theorem dX8_findPlan_91 : decode cX8_findPlan 91 = .ok (.if_icmp .ge 114, 3) := by decide +kernel
theorem dX8_findPlan_94 : decode cX8_findPlan 94 = .ok (.iload 9, 2) := by decide +kernel
theorem dX8_findPlan_96 : decode cX8_findPlan 96 = .ok (.ifCond .eq 109, 3) := by decide +kernel
theorem dX8_findPlan_99 : decode cX8_findPlan 99 = .ok (.iload 4, 2) := by decide +kernel
theorem dX8_findPlan_101 : decode cX8_findPlan 101 = .ok (.iconst 3, 1) := by decide +kernel
theorem dX8_findPlan_102 : decode cX8_findPlan 102 = .ok (.idiv, 1) := by decide +kernel
theorem dX8_findPlan_103 : decode cX8_findPlan 103 = .ok (.istore 4, 2) := by decide +kernel
theorem dX8_findPlan_105 : decode cX8_findPlan 105 = .ok (.iload_n 3, 1) := by decide +kernel
theorem dX8_findPlan_106 : decode cX8_findPlan 106 = .ok (.iload 4, 2) := by decide +kernel
theorem dX8_findPlan_108 : decode cX8_findPlan 108 = .ok (.idiv, 1) := by decide +kernel
theorem dX8_findPlan_109 : decode cX8_findPlan 109 = .ok (.iconst 3, 1) := by decide +kernel
theorem dX8_findPlan_110 : decode cX8_findPlan 110 = .ok (.irem, 1) := by decide +kernel
theorem dX8_findPlan_111 : decode cX8_findPlan 111 = .ok (.istore 11, 2) := by decide +kernel
theorem dX8_findPlan_113 : decode cX8_findPlan 113 = .ok (.iload 6, 2) := by decide +kernel
theorem dX8_findPlan_115 : decode cX8_findPlan 115 = .ok (.iload 11, 2) := by decide +kernel
theorem dX8_findPlan_117 : decode cX8_findPlan 117 = .ok (.aload_n 0, 1) := by decide +kernel
theorem dX8_findPlan_118 : decode cX8_findPlan 118 = .ok (.getfield 23, 3) := by decide +kernel
theorem dX8_findPlan_121 : decode cX8_findPlan 121 = .ok (.iload 10, 2) := by decide +kernel
theorem dX8_findPlan_123 : decode cX8_findPlan 123 = .ok (.iaload, 1) := by decide +kernel
theorem dX8_findPlan_124 : decode cX8_findPlan 124 = .ok (.imul, 1) := by decide +kernel
theorem dX8_findPlan_125 : decode cX8_findPlan 125 = .ok (.isub, 1) := by decide +kernel
theorem dX8_findPlan_126 : decode cX8_findPlan 126 = .ok (.istore 6, 2) := by decide +kernel
theorem dX8_findPlan_128 : decode cX8_findPlan 128 = .ok (.iload 5, 2) := by decide +kernel
theorem dX8_findPlan_130 : decode cX8_findPlan 130 = .ok (.iload 11, 2) := by decide +kernel
theorem dX8_findPlan_132 : decode cX8_findPlan 132 = .ok (.iadd, 1) := by decide +kernel
theorem dX8_findPlan_133 : decode cX8_findPlan 133 = .ok (.istore 5, 2) := by decide +kernel
theorem dX8_findPlan_135 : decode cX8_findPlan 135 = .ok (.iload 6, 2) := by decide +kernel
theorem dX8_findPlan_137 : decode cX8_findPlan 137 = .ok (.ifCond .lt 14, 3) := by decide +kernel
theorem dX8_findPlan_140 : decode cX8_findPlan 140 = .ok (.iload 5, 2) := by decide +kernel
theorem dX8_findPlan_142 : decode cX8_findPlan 142 = .ok (.bipush 9, 2) := by decide +kernel
theorem dX8_findPlan_144 : decode cX8_findPlan 144 = .ok (.if_icmp .gt 7, 3) := by decide +kernel
theorem dX8_findPlan_147 : decode cX8_findPlan 147 = .ok (.iconst 1, 1) := by decide +kernel
theorem dX8_findPlan_148 : decode cX8_findPlan 148 = .ok (.goto 4, 3) := by decide +kernel
theorem dX8_findPlan_151 : decode cX8_findPlan 151 = .ok (.iconst 0, 1) := by decide +kernel
theorem dX8_findPlan_152 : decode cX8_findPlan 152 = .ok (.istore 9, 2) := by decide +kernel
theorem dX8_findPlan_154 : decode cX8_findPlan 154 = .ok (.iload 9, 2) := by decide +kernel
theorem dX8_findPlan_156 : decode cX8_findPlan 156 = .ok (.ifCond .eq 25, 3) := by decide +kernel
theorem dX8_findPlan_159 : decode cX8_findPlan 159 = .ok (.lload 7, 2) := by decide +kernel
theorem dX8_findPlan_161 : decode cX8_findPlan 161 = .ok (.bipush 100, 2) := by decide +kernel
theorem dX8_findPlan_163 : decode cX8_findPlan 163 = .ok (.aload_n 0, 1) := by decide +kernel
theorem dX8_findPlan_164 : decode cX8_findPlan 164 = .ok (.iload 10, 2) := by decide +kernel
theorem dX8_findPlan_166 : decode cX8_findPlan 166 = .ok (.iload 5, 2) := by decide +kernel
theorem dX8_findPlan_168 : decode cX8_findPlan 168 = .ok (.invokevirtual 184, 3) := by decide +kernel
theorem dX8_findPlan_171 : decode cX8_findPlan 171 = .ok (.isub, 1) := by decide +kernel
theorem dX8_findPlan_172 : decode cX8_findPlan 172 = .ok (.i2l, 1) := by decide +kernel
theorem dX8_findPlan_173 : decode cX8_findPlan 173 = .ok (.lmul, 1) := by decide +kernel
theorem dX8_findPlan_174 : decode cX8_findPlan 174 = .ok (.ldc2_w 232, 3) := by decide +kernel
theorem dX8_findPlan_177 : decode cX8_findPlan 177 = .ok (.ldiv, 1) := by decide +kernel
theorem dX8_findPlan_178 : decode cX8_findPlan 178 = .ok (.goto 4, 3) := by decide +kernel
theorem dX8_findPlan_181 : decode cX8_findPlan 181 = .ok (.lconst 0, 1) := by decide +kernel
theorem dX8_findPlan_182 : decode cX8_findPlan 182 = .ok (.lstore 7, 2) := by decide +kernel
theorem dX8_findPlan_184 : decode cX8_findPlan 184 = .ok (.iload 5, 2) := by decide +kernel
theorem dX8_findPlan_186 : decode cX8_findPlan 186 = .ok (.iload 5, 2) := by decide +kernel
theorem dX8_findPlan_188 : decode cX8_findPlan 188 = .ok (.ifCond .le 7, 3) := by decide +kernel
theorem dX8_findPlan_191 : decode cX8_findPlan 191 = .ok (.iconst 1, 1) := by decide +kernel
theorem dX8_findPlan_192 : decode cX8_findPlan 192 = .ok (.goto 4, 3) := by decide +kernel
theorem dX8_findPlan_195 : decode cX8_findPlan 195 = .ok (.iconst 0, 1) := by decide +kernel
theorem dX8_findPlan_196 : decode cX8_findPlan 196 = .ok (.isub, 1) := by decide +kernel
theorem dX8_findPlan_197 : decode cX8_findPlan 197 = .ok (.istore 5, 2) := by decide +kernel
theorem dX8_findPlan_199 : decode cX8_findPlan 199 = .ok (.iinc 10 1, 3) := by decide +kernel
theorem dX8_findPlan_202 : decode cX8_findPlan 202 = .ok (.goto (-117), 3) := by decide +kernel
theorem dX8_findPlan_205 : decode cX8_findPlan 205 = .ok (.iload 9, 2) := by decide +kernel
theorem dX8_findPlan_207 : decode cX8_findPlan 207 = .ok (.ifCond .eq 88, 3) := by decide +kernel
theorem dX8_findPlan_210 : decode cX8_findPlan 210 = .ok (.aload_n 0, 1) := by decide +kernel
theorem dX8_findPlan_211 : decode cX8_findPlan 211 = .ok (.iconst 0, 1) := by decide +kernel
theorem dX8_findPlan_212 : decode cX8_findPlan 212 = .ok (.bipush 42, 2) := by decide +kernel
theorem dX8_findPlan_214 : decode cX8_findPlan 214 = .ok (.invokevirtual 199, 3) := by decide +kernel
theorem dX8_findPlan_217 : decode cX8_findPlan 217 = .ok (.aload_n 0, 1) := by decide +kernel
theorem dX8_findPlan_218 : decode cX8_findPlan 218 = .ok (.getfield 7, 3) := by decide +kernel
theorem dX8_findPlan_221 : decode cX8_findPlan 221 = .ok (.bipush 45, 2) := by decide +kernel
theorem dX8_findPlan_223 : decode cX8_findPlan 223 = .ok (.iload 6, 2) := by decide +kernel
theorem dX8_findPlan_225 : decode cX8_findPlan 225 = .ok (.iastore, 1) := by decide +kernel
theorem dX8_findPlan_226 : decode cX8_findPlan 226 = .ok (.aload_n 0, 1) := by decide +kernel
theorem dX8_findPlan_227 : decode cX8_findPlan 227 = .ok (.bipush 42, 2) := by decide +kernel
theorem dX8_findPlan_229 : decode cX8_findPlan 229 = .ok (.aload_n 0, 1) := by decide +kernel
theorem dX8_findPlan_230 : decode cX8_findPlan 230 = .ok (.getfield 141, 3) := by decide +kernel
theorem dX8_findPlan_233 : decode cX8_findPlan 233 = .ok (.invokevirtual 167, 3) := by decide +kernel
theorem dX8_findPlan_236 : decode cX8_findPlan 236 = .ok (.lload 7, 2) := by decide +kernel
theorem dX8_findPlan_238 : decode cX8_findPlan 238 = .ok (.aload_n 0, 1) := by decide +kernel
theorem dX8_findPlan_239 : decode cX8_findPlan 239 = .ok (.getfield 164, 3) := by decide +kernel
theorem dX8_findPlan_242 : decode cX8_findPlan 242 = .ok (.i2l, 1) := by decide +kernel
theorem dX8_findPlan_243 : decode cX8_findPlan 243 = .ok (.lmul, 1) := by decide +kernel
theorem dX8_findPlan_244 : decode cX8_findPlan 244 = .ok (.ldc2_w 259, 3) := by decide +kernel
theorem dX8_findPlan_247 : decode cX8_findPlan 247 = .ok (.ldiv, 1) := by decide +kernel
theorem dX8_findPlan_248 : decode cX8_findPlan 248 = .ok (.lstore 10, 2) := by decide +kernel
theorem dX8_findPlan_250 : decode cX8_findPlan 250 = .ok (.aload_n 0, 1) := by decide +kernel
theorem dX8_findPlan_251 : decode cX8_findPlan 251 = .ok (.lload 10, 2) := by decide +kernel
theorem dX8_findPlan_253 : decode cX8_findPlan 253 = .ok (.aload_n 0, 1) := by decide +kernel
theorem dX8_findPlan_254 : decode cX8_findPlan 254 = .ok (.getfield 255, 3) := by decide +kernel
theorem dX8_findPlan_257 : decode cX8_findPlan 257 = .ok (.lcmp, 1) := by decide +kernel
theorem dX8_findPlan_258 : decode cX8_findPlan 258 = .ok (.ifCond .le 7, 3) := by decide +kernel
theorem dX8_findPlan_261 : decode cX8_findPlan 261 = .ok (.iload_n 3, 1) := by decide +kernel
theorem dX8_findPlan_262 : decode cX8_findPlan 262 = .ok (.goto 7, 3) := by decide +kernel
theorem dX8_findPlan_265 : decode cX8_findPlan 265 = .ok (.aload_n 0, 1) := by decide +kernel
theorem dX8_findPlan_266 : decode cX8_findPlan 266 = .ok (.getfield 250, 3) := by decide +kernel
theorem dX8_findPlan_269 : decode cX8_findPlan 269 = .ok (.putfield 250, 3) := by decide +kernel
theorem dX8_findPlan_272 : decode cX8_findPlan 272 = .ok (.aload_n 0, 1) := by decide +kernel
theorem dX8_findPlan_273 : decode cX8_findPlan 273 = .ok (.lload 10, 2) := by decide +kernel
theorem dX8_findPlan_275 : decode cX8_findPlan 275 = .ok (.aload_n 0, 1) := by decide +kernel
theorem dX8_findPlan_276 : decode cX8_findPlan 276 = .ok (.getfield 255, 3) := by decide +kernel
theorem dX8_findPlan_279 : decode cX8_findPlan 279 = .ok (.lcmp, 1) := by decide +kernel
theorem dX8_findPlan_280 : decode cX8_findPlan 280 = .ok (.ifCond .le 8, 3) := by decide +kernel
theorem dX8_findPlan_283 : decode cX8_findPlan 283 = .ok (.lload 10, 2) := by decide +kernel
theorem dX8_findPlan_285 : decode cX8_findPlan 285 = .ok (.goto 7, 3) := by decide +kernel
theorem dX8_findPlan_288 : decode cX8_findPlan 288 = .ok (.aload_n 0, 1) := by decide +kernel
theorem dX8_findPlan_289 : decode cX8_findPlan 289 = .ok (.getfield 255, 3) := by decide +kernel
theorem dX8_findPlan_292 : decode cX8_findPlan 292 = .ok (.putfield 255, 3) := by decide +kernel
theorem dX8_findPlan_295 : decode cX8_findPlan 295 = .ok (.iinc 3 1, 3) := by decide +kernel
theorem dX8_findPlan_298 : decode cX8_findPlan 298 = .ok (.goto (-253), 3) := by decide +kernel
theorem dX8_findPlan_301 : decode cX8_findPlan 301 = .ok (.return_, 1) := by decide +kernel
theorem dX8_plan_0 : decode cX8_plan 0 = .ok (.aload_n 0, 1) := by decide +kernel
theorem dX8_plan_1 : decode cX8_plan 1 = .ok (.invokevirtual 238, 3) := by decide +kernel
theorem dX8_plan_4 : decode cX8_plan 4 = .ok (.ifCond .eq 6, 3) := by decide +kernel
theorem dX8_plan_7 : decode cX8_plan 7 = .ok (.ldc 202, 2) := by decide +kernel
theorem dX8_plan_9 : decode cX8_plan 9 = .ok (.ireturn, 1) := by decide +kernel
theorem dX8_plan_10 : decode cX8_plan 10 = .ok (.aload_n 0, 1) := by decide +kernel
theorem dX8_plan_11 : decode cX8_plan 11 = .ok (.invokevirtual 261, 3) := by decide +kernel
theorem dX8_plan_14 : decode cX8_plan 14 = .ok (.aload_n 0, 1) := by decide +kernel
theorem dX8_plan_15 : decode cX8_plan 15 = .ok (.getfield 67, 3) := by decide +kernel
theorem dX8_plan_18 : decode cX8_plan 18 = .ok (.aload_n 0, 1) := by decide +kernel
theorem dX8_plan_19 : decode cX8_plan 19 = .ok (.getfield 7, 3) := by decide +kernel
theorem dX8_plan_22 : decode cX8_plan 22 = .ok (.iconst 0, 1) := by decide +kernel
theorem dX8_plan_23 : decode cX8_plan 23 = .ok (.iaload, 1) := by decide +kernel
theorem dX8_plan_24 : decode cX8_plan 24 = .ok (.isub, 1) := by decide +kernel
theorem dX8_plan_25 : decode cX8_plan 25 = .ok (.istore_n 2, 1) := by decide +kernel
theorem dX8_plan_26 : decode cX8_plan 26 = .ok (.iload_n 1, 1) := by decide +kernel
theorem dX8_plan_27 : decode cX8_plan 27 = .ok (.iconst (-1), 1) := by decide +kernel
theorem dX8_plan_28 : decode cX8_plan 28 = .ok (.if_icmp .ne 9, 3) := by decide +kernel
theorem dX8_plan_31 : decode cX8_plan 31 = .ok (.aload_n 0, 1) := by decide +kernel
theorem dX8_plan_32 : decode cX8_plan 32 = .ok (.getfield 255, 3) := by decide +kernel
theorem dX8_plan_35 : decode cX8_plan 35 = .ok (.l2i, 1) := by decide +kernel
theorem dX8_plan_36 : decode cX8_plan 36 = .ok (.ireturn, 1) := by decide +kernel
theorem dX8_plan_37 : decode cX8_plan 37 = .ok (.iload_n 1, 1) := by decide +kernel
theorem dX8_plan_38 : decode cX8_plan 38 = .ok (.i2l, 1) := by decide +kernel
theorem dX8_plan_39 : decode cX8_plan 39 = .ok (.lconst 0, 1) := by decide +kernel
theorem dX8_plan_40 : decode cX8_plan 40 = .ok (.iload_n 2, 1) := by decide +kernel
theorem dX8_plan_41 : decode cX8_plan 41 = .ok (.iconst 1, 1) := by decide +kernel
theorem dX8_plan_42 : decode cX8_plan 42 = .ok (.isub, 1) := by decide +kernel
theorem dX8_plan_43 : decode cX8_plan 43 = .ok (.i2l, 1) := by decide +kernel
theorem dX8_plan_44 : decode cX8_plan 44 = .ok (.invokestatic 70, 3) := by decide +kernel
theorem dX8_plan_47 : decode cX8_plan 47 = .ok (.ifCond .ne 5, 3) := by decide +kernel
theorem dX8_plan_50 : decode cX8_plan 50 = .ok (.iconst (-1), 1) := by decide +kernel
theorem dX8_plan_51 : decode cX8_plan 51 = .ok (.ireturn, 1) := by decide +kernel
theorem dX8_plan_52 : decode cX8_plan 52 = .ok (.aload_n 0, 1) := by decide +kernel
theorem dX8_plan_53 : decode cX8_plan 53 = .ok (.getfield 250, 3) := by decide +kernel
theorem dX8_plan_56 : decode cX8_plan 56 = .ok (.istore_n 3, 1) := by decide +kernel
theorem dX8_plan_57 : decode cX8_plan 57 = .ok (.iload_n 2, 1) := by decide +kernel
theorem dX8_plan_58 : decode cX8_plan 58 = .ok (.iconst 1, 1) := by decide +kernel
theorem dX8_plan_59 : decode cX8_plan 59 = .ok (.isub, 1) := by decide +kernel
theorem dX8_plan_60 : decode cX8_plan 60 = .ok (.istore 4, 2) := by decide +kernel
theorem dX8_plan_62 : decode cX8_plan 62 = .ok (.iload 4, 2) := by decide +kernel
theorem dX8_plan_64 : decode cX8_plan 64 = .ok (.iload_n 1, 1) := by decide +kernel
theorem dX8_plan_65 : decode cX8_plan 65 = .ok (.if_icmp .le 13, 3) := by decide +kernel
theorem dX8_plan_68 : decode cX8_plan 68 = .ok (.iload_n 3, 1) := by decide +kernel
theorem dX8_plan_69 : decode cX8_plan 69 = .ok (.iconst 3, 1) := by decide +kernel
theorem dX8_plan_70 : decode cX8_plan 70 = .ok (.idiv, 1) := by decide +kernel
theorem dX8_plan_71 : decode cX8_plan 71 = .ok (.istore_n 3, 1) := by decide +kernel
theorem dX8_plan_72 : decode cX8_plan 72 = .ok (.iinc 4 (-1), 3) := by decide +kernel
theorem dX8_plan_75 : decode cX8_plan 75 = .ok (.goto (-13), 3) := by decide +kernel
theorem dX8_plan_78 : decode cX8_plan 78 = .ok (.iload_n 3, 1) := by decide +kernel
theorem dX8_plan_79 : decode cX8_plan 79 = .ok (.iconst 3, 1) := by decide +kernel
theorem dX8_plan_80 : decode cX8_plan 80 = .ok (.irem, 1) := by decide +kernel
theorem dX8_plan_81 : decode cX8_plan 81 = .ok (.ireturn, 1) := by decide +kernel
theorem dX8_belief_0 : decode cX8_belief 0 = .ok (.iload_n 1, 1) := by decide +kernel
theorem dX8_belief_1 : decode cX8_belief 1 = .ok (.i2l, 1) := by decide +kernel
theorem dX8_belief_2 : decode cX8_belief 2 = .ok (.lconst 0, 1) := by decide +kernel
theorem dX8_belief_3 : decode cX8_belief 3 = .ok (.ldc2_w 225, 3) := by decide +kernel
theorem dX8_belief_6 : decode cX8_belief 6 = .ok (.invokestatic 70, 3) := by decide +kernel
theorem dX8_belief_9 : decode cX8_belief 9 = .ok (.ifCond .eq 15, 3) := by decide +kernel
theorem dX8_belief_12 : decode cX8_belief 12 = .ok (.iload_n 2, 1) := by decide +kernel
theorem dX8_belief_13 : decode cX8_belief 13 = .ok (.i2l, 1) := by decide +kernel
theorem dX8_belief_14 : decode cX8_belief 14 = .ok (.lconst 0, 1) := by decide +kernel
theorem dX8_belief_15 : decode cX8_belief 15 = .ok (.ldc2_w 212, 3) := by decide +kernel
theorem dX8_belief_18 : decode cX8_belief 18 = .ok (.invokestatic 70, 3) := by decide +kernel
theorem dX8_belief_21 : decode cX8_belief 21 = .ok (.ifCond .ne 6, 3) := by decide +kernel
theorem dX8_belief_24 : decode cX8_belief 24 = .ok (.ldc 79, 2) := by decide +kernel
theorem dX8_belief_26 : decode cX8_belief 26 = .ok (.ireturn, 1) := by decide +kernel
theorem dX8_belief_27 : decode cX8_belief 27 = .ok (.aload_n 0, 1) := by decide +kernel
theorem dX8_belief_28 : decode cX8_belief 28 = .ok (.getfield 7, 3) := by decide +kernel
theorem dX8_belief_31 : decode cX8_belief 31 = .ok (.iconst 0, 1) := by decide +kernel
theorem dX8_belief_32 : decode cX8_belief 32 = .ok (.iaload, 1) := by decide +kernel
theorem dX8_belief_33 : decode cX8_belief 33 = .ok (.iload_n 1, 1) := by decide +kernel
theorem dX8_belief_34 : decode cX8_belief 34 = .ok (.isub, 1) := by decide +kernel
theorem dX8_belief_35 : decode cX8_belief 35 = .ok (.istore_n 3, 1) := by decide +kernel
theorem dX8_belief_36 : decode cX8_belief 36 = .ok (.aload_n 0, 1) := by decide +kernel
theorem dX8_belief_37 : decode cX8_belief 37 = .ok (.iload_n 3, 1) := by decide +kernel
theorem dX8_belief_38 : decode cX8_belief 38 = .ok (.ifCond .ge 7, 3) := by decide +kernel
theorem dX8_belief_41 : decode cX8_belief 41 = .ok (.iconst 0, 1) := by decide +kernel
theorem dX8_belief_42 : decode cX8_belief 42 = .ok (.goto 4, 3) := by decide +kernel
theorem dX8_belief_45 : decode cX8_belief 45 = .ok (.iload_n 3, 1) := by decide +kernel
theorem dX8_belief_46 : decode cX8_belief 46 = .ok (.aload_n 0, 1) := by decide +kernel
theorem dX8_belief_47 : decode cX8_belief 47 = .ok (.getfield 7, 3) := by decide +kernel
theorem dX8_belief_50 : decode cX8_belief 50 = .ok (.iconst 0, 1) := by decide +kernel
theorem dX8_belief_51 : decode cX8_belief 51 = .ok (.iaload, 1) := by decide +kernel
theorem dX8_belief_52 : decode cX8_belief 52 = .ok (.iload_n 2, 1) := by decide +kernel
theorem dX8_belief_53 : decode cX8_belief 53 = .ok (.invokevirtual 234, 3) := by decide +kernel
theorem dX8_belief_56 : decode cX8_belief 56 = .ok (.l2i, 1) := by decide +kernel
theorem dX8_belief_57 : decode cX8_belief 57 = .ok (.ireturn, 1) := by decide +kernel
theorem dX8_need_0 : decode cX8_need 0 = .ok (.iload_n 1, 1) := by decide +kernel
theorem dX8_need_1 : decode cX8_need 1 = .ok (.i2l, 1) := by decide +kernel
theorem dX8_need_2 : decode cX8_need 2 = .ok (.lconst 0, 1) := by decide +kernel
theorem dX8_need_3 : decode cX8_need 3 = .ok (.ldc2_w 212, 3) := by decide +kernel
theorem dX8_need_6 : decode cX8_need 6 = .ok (.invokestatic 70, 3) := by decide +kernel
theorem dX8_need_9 : decode cX8_need 9 = .ok (.ifCond .eq 13, 3) := by decide +kernel
theorem dX8_need_12 : decode cX8_need 12 = .ok (.iload_n 2, 1) := by decide +kernel
theorem dX8_need_13 : decode cX8_need 13 = .ok (.i2l, 1) := by decide +kernel
theorem dX8_need_14 : decode cX8_need 14 = .ok (.lconst 0, 1) := by decide +kernel
theorem dX8_need_15 : decode cX8_need 15 = .ok (.lconst 1, 1) := by decide +kernel
theorem dX8_need_16 : decode cX8_need 16 = .ok (.invokestatic 70, 3) := by decide +kernel
theorem dX8_need_19 : decode cX8_need 19 = .ok (.ifCond .ne 6, 3) := by decide +kernel
theorem dX8_need_22 : decode cX8_need 22 = .ok (.ldc 79, 2) := by decide +kernel
theorem dX8_need_24 : decode cX8_need 24 = .ok (.ireturn, 1) := by decide +kernel
theorem dX8_need_25 : decode cX8_need 25 = .ok (.aload_n 0, 1) := by decide +kernel
theorem dX8_need_26 : decode cX8_need 26 = .ok (.invokevirtual 171, 3) := by decide +kernel
theorem dX8_need_29 : decode cX8_need 29 = .ok (.ifCond .eq 6, 3) := by decide +kernel
theorem dX8_need_32 : decode cX8_need 32 = .ok (.ldc 202, 2) := by decide +kernel
theorem dX8_need_34 : decode cX8_need 34 = .ok (.ireturn, 1) := by decide +kernel
theorem dX8_need_35 : decode cX8_need 35 = .ok (.iload_n 1, 1) := by decide +kernel
theorem dX8_need_36 : decode cX8_need 36 = .ok (.aload_n 0, 1) := by decide +kernel
theorem dX8_need_37 : decode cX8_need 37 = .ok (.getfield 7, 3) := by decide +kernel
theorem dX8_need_40 : decode cX8_need 40 = .ok (.iconst 2, 1) := by decide +kernel
theorem dX8_need_41 : decode cX8_need 41 = .ok (.iaload, 1) := by decide +kernel
theorem dX8_need_42 : decode cX8_need 42 = .ok (.if_icmp .le 14, 3) := by decide +kernel
theorem dX8_need_45 : decode cX8_need 45 = .ok (.iload_n 1, 1) := by decide +kernel
theorem dX8_need_46 : decode cX8_need 46 = .ok (.aload_n 0, 1) := by decide +kernel
theorem dX8_need_47 : decode cX8_need 47 = .ok (.getfield 7, 3) := by decide +kernel
theorem dX8_need_50 : decode cX8_need 50 = .ok (.iconst 2, 1) := by decide +kernel
theorem dX8_need_51 : decode cX8_need 51 = .ok (.iaload, 1) := by decide +kernel
theorem dX8_need_52 : decode cX8_need 52 = .ok (.isub, 1) := by decide +kernel
theorem dX8_need_53 : decode cX8_need 53 = .ok (.goto 4, 3) := by decide +kernel
theorem dX8_need_56 : decode cX8_need 56 = .ok (.iconst 0, 1) := by decide +kernel
theorem dX8_need_57 : decode cX8_need 57 = .ok (.istore_n 3, 1) := by decide +kernel
theorem dX8_need_58 : decode cX8_need 58 = .ok (.iload_n 3, 1) := by decide +kernel
theorem dX8_need_59 : decode cX8_need 59 = .ok (.aload_n 0, 1) := by decide +kernel
theorem dX8_need_60 : decode cX8_need 60 = .ok (.getfield 23, 3) := by decide +kernel
theorem dX8_need_63 : decode cX8_need 63 = .ok (.aload_n 0, 1) := by decide +kernel
theorem dX8_need_64 : decode cX8_need 64 = .ok (.getfield 7, 3) := by decide +kernel
theorem dX8_need_67 : decode cX8_need 67 = .ok (.iconst 0, 1) := by decide +kernel
theorem dX8_need_68 : decode cX8_need 68 = .ok (.iaload, 1) := by decide +kernel
theorem dX8_need_69 : decode cX8_need 69 = .ok (.iaload, 1) := by decide +kernel
theorem dX8_need_70 : decode cX8_need 70 = .ok (.imul, 1) := by decide +kernel
theorem dX8_need_71 : decode cX8_need 71 = .ok (.aload_n 0, 1) := by decide +kernel
theorem dX8_need_72 : decode cX8_need 72 = .ok (.getfield 7, 3) := by decide +kernel
theorem dX8_need_75 : decode cX8_need 75 = .ok (.iconst 3, 1) := by decide +kernel
theorem dX8_need_76 : decode cX8_need 76 = .ok (.iaload, 1) := by decide +kernel
theorem dX8_need_77 : decode cX8_need 77 = .ok (.isub, 1) := by decide +kernel
theorem dX8_need_78 : decode cX8_need 78 = .ok (.istore 4, 2) := by decide +kernel
theorem dX8_need_80 : decode cX8_need 80 = .ok (.iload 4, 2) := by decide +kernel
theorem dX8_need_82 : decode cX8_need 82 = .ok (.ifCond .le 8, 3) := by decide +kernel
theorem dX8_need_85 : decode cX8_need 85 = .ok (.iload 4, 2) := by decide +kernel
theorem dX8_need_87 : decode cX8_need 87 = .ok (.goto 4, 3) := by decide +kernel
theorem dX8_need_90 : decode cX8_need 90 = .ok (.iconst 0, 1) := by decide +kernel
theorem dX8_need_91 : decode cX8_need 91 = .ok (.istore 4, 2) := by decide +kernel
theorem dX8_need_93 : decode cX8_need 93 = .ok (.iconst (-1), 1) := by decide +kernel
theorem dX8_need_94 : decode cX8_need 94 = .ok (.istore 5, 2) := by decide +kernel
theorem dX8_need_96 : decode cX8_need 96 = .ok (.iconst 0, 1) := by decide +kernel
theorem dX8_need_97 : decode cX8_need 97 = .ok (.istore 6, 2) := by decide +kernel
theorem dX8_need_99 : decode cX8_need 99 = .ok (.iload 6, 2) := by decide +kernel
theorem dX8_need_101 : decode cX8_need 101 = .ok (.aload_n 0, 1) := by decide +kernel
theorem dX8_need_102 : decode cX8_need 102 = .ok (.getfield 74, 3) := by decide +kernel
theorem dX8_need_105 : decode cX8_need 105 = .ok (.if_icmp .ge 64, 3) := by decide +kernel
theorem dX8_need_108 : decode cX8_need 108 = .ok (.aload_n 0, 1) := by decide +kernel
theorem dX8_need_109 : decode cX8_need 109 = .ok (.iload 6, 2) := by decide +kernel
theorem dX8_need_111 : decode cX8_need 111 = .ok (.invokevirtual 190, 3) := by decide +kernel
theorem dX8_need_114 : decode cX8_need 114 = .ok (.iload 4, 2) := by decide +kernel
theorem dX8_need_116 : decode cX8_need 116 = .ok (.if_icmp .lt 7, 3) := by decide +kernel
theorem dX8_need_119 : decode cX8_need 119 = .ok (.iconst 1, 1) := by decide +kernel
theorem dX8_need_120 : decode cX8_need 120 = .ok (.goto 4, 3) := by decide +kernel
theorem dX8_need_123 : decode cX8_need 123 = .ok (.iconst 0, 1) := by decide +kernel
theorem dX8_need_124 : decode cX8_need 124 = .ok (.istore 7, 2) := by decide +kernel
theorem dX8_need_126 : decode cX8_need 126 = .ok (.iload 7, 2) := by decide +kernel
theorem dX8_need_128 : decode cX8_need 128 = .ok (.ifCond .eq 31, 3) := by decide +kernel
theorem dX8_need_131 : decode cX8_need 131 = .ok (.iload 5, 2) := by decide +kernel
theorem dX8_need_133 : decode cX8_need 133 = .ok (.iconst (-1), 1) := by decide +kernel
theorem dX8_need_134 : decode cX8_need 134 = .ok (.if_icmp .eq 20, 3) := by decide +kernel
theorem dX8_need_137 : decode cX8_need 137 = .ok (.aload_n 0, 1) := by decide +kernel
theorem dX8_need_138 : decode cX8_need 138 = .ok (.getfield 29, 3) := by decide +kernel
theorem dX8_need_141 : decode cX8_need 141 = .ok (.iload 6, 2) := by decide +kernel
theorem dX8_need_143 : decode cX8_need 143 = .ok (.iaload, 1) := by decide +kernel
theorem dX8_need_144 : decode cX8_need 144 = .ok (.aload_n 0, 1) := by decide +kernel
theorem dX8_need_145 : decode cX8_need 145 = .ok (.getfield 29, 3) := by decide +kernel
theorem dX8_need_148 : decode cX8_need 148 = .ok (.iload 5, 2) := by decide +kernel
theorem dX8_need_150 : decode cX8_need 150 = .ok (.iaload, 1) := by decide +kernel
theorem dX8_need_151 : decode cX8_need 151 = .ok (.if_icmp .ge 8, 3) := by decide +kernel
theorem dX8_need_154 : decode cX8_need 154 = .ok (.iload 6, 2) := by decide +kernel
theorem dX8_need_156 : decode cX8_need 156 = .ok (.goto 5, 3) := by decide +kernel
theorem dX8_need_159 : decode cX8_need 159 = .ok (.iload 5, 2) := by decide +kernel
theorem dX8_need_161 : decode cX8_need 161 = .ok (.istore 5, 2) := by decide +kernel
theorem dX8_need_163 : decode cX8_need 163 = .ok (.iinc 6 1, 3) := by decide +kernel
theorem dX8_need_166 : decode cX8_need 166 = .ok (.goto (-67), 3) := by decide +kernel
theorem dX8_need_169 : decode cX8_need 169 = .ok (.iload_n 2, 1) := by decide +kernel
theorem dX8_need_170 : decode cX8_need 170 = .ok (.ifCond .ne 8, 3) := by decide +kernel
theorem dX8_need_173 : decode cX8_need 173 = .ok (.iload 4, 2) := by decide +kernel
theorem dX8_need_175 : decode cX8_need 175 = .ok (.goto 5, 3) := by decide +kernel
theorem dX8_need_178 : decode cX8_need 178 = .ok (.iload 5, 2) := by decide +kernel
theorem dX8_need_180 : decode cX8_need 180 = .ok (.ireturn, 1) := by decide +kernel
theorem dX8_tell_0 : decode cX8_tell 0 = .ok (.aload_n 0, 1) := by decide +kernel
theorem dX8_tell_1 : decode cX8_tell 1 = .ok (.iload_n 1, 1) := by decide +kernel
theorem dX8_tell_2 : decode cX8_tell 2 = .ok (.invokevirtual 193, 3) := by decide +kernel
theorem dX8_tell_5 : decode cX8_tell 5 = .ok (.ifCond .ne 6, 3) := by decide +kernel
theorem dX8_tell_8 : decode cX8_tell 8 = .ok (.ldc 183, 2) := by decide +kernel
theorem dX8_tell_10 : decode cX8_tell 10 = .ok (.ireturn, 1) := by decide +kernel
theorem dX8_tell_11 : decode cX8_tell 11 = .ok (.iload_n 2, 1) := by decide +kernel
theorem dX8_tell_12 : decode cX8_tell 12 = .ok (.i2l, 1) := by decide +kernel
theorem dX8_tell_13 : decode cX8_tell 13 = .ok (.lconst 0, 1) := by decide +kernel
theorem dX8_tell_14 : decode cX8_tell 14 = .ok (.ldc2_w 264, 3) := by decide +kernel
theorem dX8_tell_17 : decode cX8_tell 17 = .ok (.invokestatic 70, 3) := by decide +kernel
theorem dX8_tell_20 : decode cX8_tell 20 = .ok (.ifCond .ne 6, 3) := by decide +kernel
theorem dX8_tell_23 : decode cX8_tell 23 = .ok (.ldc 79, 2) := by decide +kernel
theorem dX8_tell_25 : decode cX8_tell 25 = .ok (.ireturn, 1) := by decide +kernel
theorem dX8_tell_26 : decode cX8_tell 26 = .ok (.aload_n 0, 1) := by decide +kernel
theorem dX8_tell_27 : decode cX8_tell 27 = .ok (.getfield 147, 3) := by decide +kernel
theorem dX8_tell_30 : decode cX8_tell 30 = .ok (.bipush 6, 2) := by decide +kernel
theorem dX8_tell_32 : decode cX8_tell 32 = .ok (.if_icmp .ne 6, 3) := by decide +kernel
theorem dX8_tell_35 : decode cX8_tell 35 = .ok (.ldc 83, 2) := by decide +kernel
theorem dX8_tell_37 : decode cX8_tell 37 = .ok (.ireturn, 1) := by decide +kernel
theorem dX8_tell_38 : decode cX8_tell 38 = .ok (.aload_n 0, 1) := by decide +kernel
theorem dX8_tell_39 : decode cX8_tell 39 = .ok (.getfield 54, 3) := by decide +kernel
theorem dX8_tell_42 : decode cX8_tell 42 = .ok (.aload_n 0, 1) := by decide +kernel
theorem dX8_tell_43 : decode cX8_tell 43 = .ok (.getfield 147, 3) := by decide +kernel
theorem dX8_tell_46 : decode cX8_tell 46 = .ok (.iload_n 1, 1) := by decide +kernel
theorem dX8_tell_47 : decode cX8_tell 47 = .ok (.iastore, 1) := by decide +kernel
theorem dX8_tell_48 : decode cX8_tell 48 = .ok (.aload_n 0, 1) := by decide +kernel
theorem dX8_tell_49 : decode cX8_tell 49 = .ok (.getfield 57, 3) := by decide +kernel
theorem dX8_tell_52 : decode cX8_tell 52 = .ok (.aload_n 0, 1) := by decide +kernel
theorem dX8_tell_53 : decode cX8_tell 53 = .ok (.getfield 147, 3) := by decide +kernel
theorem dX8_tell_56 : decode cX8_tell 56 = .ok (.iload_n 2, 1) := by decide +kernel
theorem dX8_tell_57 : decode cX8_tell 57 = .ok (.iastore, 1) := by decide +kernel
theorem dX8_tell_58 : decode cX8_tell 58 = .ok (.aload_n 0, 1) := by decide +kernel
theorem dX8_tell_59 : decode cX8_tell 59 = .ok (.dup, 1) := by decide +kernel
theorem dX8_tell_60 : decode cX8_tell 60 = .ok (.getfield 147, 3) := by decide +kernel
theorem dX8_tell_63 : decode cX8_tell 63 = .ok (.iconst 1, 1) := by decide +kernel
theorem dX8_tell_64 : decode cX8_tell 64 = .ok (.iadd, 1) := by decide +kernel
theorem dX8_tell_65 : decode cX8_tell 65 = .ok (.putfield 147, 3) := by decide +kernel
theorem dX8_tell_68 : decode cX8_tell 68 = .ok (.aload_n 0, 1) := by decide +kernel
theorem dX8_tell_69 : decode cX8_tell 69 = .ok (.getfield 147, 3) := by decide +kernel
theorem dX8_tell_72 : decode cX8_tell 72 = .ok (.ireturn, 1) := by decide +kernel
theorem dX8_worth_0 : decode cX8_worth 0 = .ok (.iload_n 1, 1) := by decide +kernel
theorem dX8_worth_1 : decode cX8_worth 1 = .ok (.i2l, 1) := by decide +kernel
theorem dX8_worth_2 : decode cX8_worth 2 = .ok (.lconst 0, 1) := by decide +kernel
theorem dX8_worth_3 : decode cX8_worth 3 = .ok (.ldc2_w 266, 3) := by decide +kernel
theorem dX8_worth_6 : decode cX8_worth 6 = .ok (.invokestatic 70, 3) := by decide +kernel
theorem dX8_worth_9 : decode cX8_worth 9 = .ok (.ifCond .ne 6, 3) := by decide +kernel
theorem dX8_worth_12 : decode cX8_worth 12 = .ok (.ldc 79, 2) := by decide +kernel
theorem dX8_worth_14 : decode cX8_worth 14 = .ok (.ireturn, 1) := by decide +kernel
theorem dX8_worth_15 : decode cX8_worth 15 = .ok (.aload_n 0, 1) := by decide +kernel
theorem dX8_worth_16 : decode cX8_worth 16 = .ok (.invokevirtual 238, 3) := by decide +kernel
theorem dX8_worth_19 : decode cX8_worth 19 = .ok (.ifCond .eq 6, 3) := by decide +kernel
theorem dX8_worth_22 : decode cX8_worth 22 = .ok (.ldc 202, 2) := by decide +kernel
theorem dX8_worth_24 : decode cX8_worth 24 = .ok (.ireturn, 1) := by decide +kernel
theorem dX8_worth_25 : decode cX8_worth 25 = .ok (.iconst 0, 1) := by decide +kernel
theorem dX8_worth_26 : decode cX8_worth 26 = .ok (.istore_n 2, 1) := by decide +kernel
theorem dX8_worth_27 : decode cX8_worth 27 = .ok (.iconst (-1), 1) := by decide +kernel
theorem dX8_worth_28 : decode cX8_worth 28 = .ok (.istore_n 3, 1) := by decide +kernel
theorem dX8_worth_29 : decode cX8_worth 29 = .ok (.iconst (-1), 1) := by decide +kernel
theorem dX8_worth_30 : decode cX8_worth 30 = .ok (.istore 4, 2) := by decide +kernel
theorem dX8_worth_32 : decode cX8_worth 32 = .ok (.iconst 0, 1) := by decide +kernel
theorem dX8_worth_33 : decode cX8_worth 33 = .ok (.istore 5, 2) := by decide +kernel
theorem dX8_worth_35 : decode cX8_worth 35 = .ok (.iload 5, 2) := by decide +kernel
theorem dX8_worth_37 : decode cX8_worth 37 = .ok (.sipush 999, 3) := by decide +kernel
theorem dX8_worth_40 : decode cX8_worth 40 = .ok (.if_icmp .gt 128, 3) := by decide +kernel
theorem dX8_worth_43 : decode cX8_worth 43 = .ok (.aload_n 0, 1) := by decide +kernel
theorem dX8_worth_44 : decode cX8_worth 44 = .ok (.iconst 0, 1) := by decide +kernel
theorem dX8_worth_45 : decode cX8_worth 45 = .ok (.iload 5, 2) := by decide +kernel
theorem dX8_worth_47 : decode cX8_worth 47 = .ok (.invokevirtual 167, 3) := by decide +kernel
theorem dX8_worth_50 : decode cX8_worth 50 = .ok (.iconst 1, 1) := by decide +kernel
theorem dX8_worth_51 : decode cX8_worth 51 = .ok (.istore 6, 2) := by decide +kernel
theorem dX8_worth_53 : decode cX8_worth 53 = .ok (.iconst 0, 1) := by decide +kernel
theorem dX8_worth_54 : decode cX8_worth 54 = .ok (.istore 7, 2) := by decide +kernel
theorem dX8_worth_56 : decode cX8_worth 56 = .ok (.iload 7, 2) := by decide +kernel
theorem dX8_worth_58 : decode cX8_worth 58 = .ok (.aload_n 0, 1) := by decide +kernel
theorem dX8_worth_59 : decode cX8_worth 59 = .ok (.getfield 147, 3) := by decide +kernel
theorem dX8_worth_62 : decode cX8_worth 62 = .ok (.if_icmp .ge 57, 3) := by decide +kernel
theorem dX8_worth_65 : decode cX8_worth 65 = .ok (.iload 6, 2) := by decide +kernel
theorem dX8_worth_67 : decode cX8_worth 67 = .ok (.ifCond .eq 43, 3) := by decide +kernel
theorem dX8_worth_70 : decode cX8_worth 70 = .ok (.aload_n 0, 1) := by decide +kernel
theorem dX8_worth_71 : decode cX8_worth 71 = .ok (.aload_n 0, 1) := by decide +kernel
theorem dX8_worth_72 : decode cX8_worth 72 = .ok (.getfield 54, 3) := by decide +kernel
theorem dX8_worth_75 : decode cX8_worth 75 = .ok (.iload 7, 2) := by decide +kernel
theorem dX8_worth_77 : decode cX8_worth 77 = .ok (.iaload, 1) := by decide +kernel
theorem dX8_worth_78 : decode cX8_worth 78 = .ok (.invokevirtual 193, 3) := by decide +kernel
theorem dX8_worth_81 : decode cX8_worth 81 = .ok (.ifCond .eq 29, 3) := by decide +kernel
theorem dX8_worth_84 : decode cX8_worth 84 = .ok (.aload_n 0, 1) := by decide +kernel
theorem dX8_worth_85 : decode cX8_worth 85 = .ok (.getfield 48, 3) := by decide +kernel
theorem dX8_worth_88 : decode cX8_worth 88 = .ok (.aload_n 0, 1) := by decide +kernel
theorem dX8_worth_89 : decode cX8_worth 89 = .ok (.getfield 54, 3) := by decide +kernel
theorem dX8_worth_92 : decode cX8_worth 92 = .ok (.iload 7, 2) := by decide +kernel
theorem dX8_worth_94 : decode cX8_worth 94 = .ok (.iaload, 1) := by decide +kernel
theorem dX8_worth_95 : decode cX8_worth 95 = .ok (.iaload, 1) := by decide +kernel
theorem dX8_worth_96 : decode cX8_worth 96 = .ok (.aload_n 0, 1) := by decide +kernel
theorem dX8_worth_97 : decode cX8_worth 97 = .ok (.getfield 57, 3) := by decide +kernel
theorem dX8_worth_100 : decode cX8_worth 100 = .ok (.iload 7, 2) := by decide +kernel
theorem dX8_worth_102 : decode cX8_worth 102 = .ok (.iaload, 1) := by decide +kernel
theorem dX8_worth_103 : decode cX8_worth 103 = .ok (.if_icmp .ne 7, 3) := by decide +kernel
theorem dX8_worth_106 : decode cX8_worth 106 = .ok (.iconst 1, 1) := by decide +kernel
theorem dX8_worth_107 : decode cX8_worth 107 = .ok (.goto 4, 3) := by decide +kernel
theorem dX8_worth_110 : decode cX8_worth 110 = .ok (.iconst 0, 1) := by decide +kernel
theorem dX8_worth_111 : decode cX8_worth 111 = .ok (.istore 6, 2) := by decide +kernel
theorem dX8_worth_113 : decode cX8_worth 113 = .ok (.iinc 7 1, 3) := by decide +kernel
theorem dX8_worth_116 : decode cX8_worth 116 = .ok (.goto (-60), 3) := by decide +kernel
theorem dX8_worth_119 : decode cX8_worth 119 = .ok (.iload 6, 2) := by decide +kernel
theorem dX8_worth_121 : decode cX8_worth 121 = .ok (.ifCond .eq 12, 3) := by decide +kernel
theorem dX8_worth_124 : decode cX8_worth 124 = .ok (.iload_n 2, 1) := by decide +kernel
theorem dX8_worth_125 : decode cX8_worth 125 = .ok (.ifCond .ne 8, 3) := by decide +kernel
theorem dX8_worth_128 : decode cX8_worth 128 = .ok (.iload 5, 2) := by decide +kernel
theorem dX8_worth_130 : decode cX8_worth 130 = .ok (.goto 4, 3) := by decide +kernel
theorem dX8_worth_133 : decode cX8_worth 133 = .ok (.iload_n 3, 1) := by decide +kernel
theorem dX8_worth_134 : decode cX8_worth 134 = .ok (.istore_n 3, 1) := by decide +kernel
theorem dX8_worth_135 : decode cX8_worth 135 = .ok (.iload 6, 2) := by decide +kernel
theorem dX8_worth_137 : decode cX8_worth 137 = .ok (.ifCond .eq 8, 3) := by decide +kernel
theorem dX8_worth_140 : decode cX8_worth 140 = .ok (.iload 5, 2) := by decide +kernel
theorem dX8_worth_142 : decode cX8_worth 142 = .ok (.goto 5, 3) := by decide +kernel
theorem dX8_worth_145 : decode cX8_worth 145 = .ok (.iload 4, 2) := by decide +kernel
theorem dX8_worth_147 : decode cX8_worth 147 = .ok (.istore 4, 2) := by decide +kernel
theorem dX8_worth_149 : decode cX8_worth 149 = .ok (.iload_n 2, 1) := by decide +kernel
theorem dX8_worth_150 : decode cX8_worth 150 = .ok (.iload 6, 2) := by decide +kernel
theorem dX8_worth_152 : decode cX8_worth 152 = .ok (.ifCond .eq 7, 3) := by decide +kernel
theorem dX8_worth_155 : decode cX8_worth 155 = .ok (.iconst 1, 1) := by decide +kernel
theorem dX8_worth_156 : decode cX8_worth 156 = .ok (.goto 4, 3) := by decide +kernel
theorem dX8_worth_159 : decode cX8_worth 159 = .ok (.iconst 0, 1) := by decide +kernel
theorem dX8_worth_160 : decode cX8_worth 160 = .ok (.iadd, 1) := by decide +kernel
theorem dX8_worth_161 : decode cX8_worth 161 = .ok (.istore_n 2, 1) := by decide +kernel
theorem dX8_worth_162 : decode cX8_worth 162 = .ok (.iinc 5 1, 3) := by decide +kernel
theorem dX8_worth_165 : decode cX8_worth 165 = .ok (.goto (-130), 3) := by decide +kernel
theorem dX8_worth_168 : decode cX8_worth 168 = .ok (.iload_n 1, 1) := by decide +kernel
theorem dX8_worth_169 : decode cX8_worth 169 = .ok (.ifCond .ne 7, 3) := by decide +kernel
theorem dX8_worth_172 : decode cX8_worth 172 = .ok (.iload_n 2, 1) := by decide +kernel
theorem dX8_worth_173 : decode cX8_worth 173 = .ok (.goto 14, 3) := by decide +kernel
theorem dX8_worth_176 : decode cX8_worth 176 = .ok (.iload_n 1, 1) := by decide +kernel
theorem dX8_worth_177 : decode cX8_worth 177 = .ok (.iconst 1, 1) := by decide +kernel
theorem dX8_worth_178 : decode cX8_worth 178 = .ok (.if_icmp .ne 7, 3) := by decide +kernel
theorem dX8_worth_181 : decode cX8_worth 181 = .ok (.iload_n 3, 1) := by decide +kernel
theorem dX8_worth_182 : decode cX8_worth 182 = .ok (.goto 5, 3) := by decide +kernel
theorem dX8_worth_185 : decode cX8_worth 185 = .ok (.iload 4, 2) := by decide +kernel
theorem dX8_worth_187 : decode cX8_worth 187 = .ok (.ireturn, 1) := by decide +kernel
theorem dX8_write_0 : decode cX8_write 0 = .ok (.iload_n 1, 1) := by decide +kernel
theorem dX8_write_1 : decode cX8_write 1 = .ok (.i2l, 1) := by decide +kernel
theorem dX8_write_2 : decode cX8_write 2 = .ok (.lconst 0, 1) := by decide +kernel
theorem dX8_write_3 : decode cX8_write 3 = .ok (.ldc2_w 264, 3) := by decide +kernel
theorem dX8_write_6 : decode cX8_write 6 = .ok (.invokestatic 70, 3) := by decide +kernel
theorem dX8_write_9 : decode cX8_write 9 = .ok (.ifCond .ne 6, 3) := by decide +kernel
theorem dX8_write_12 : decode cX8_write 12 = .ok (.ldc 79, 2) := by decide +kernel
theorem dX8_write_14 : decode cX8_write 14 = .ok (.ireturn, 1) := by decide +kernel
theorem dX8_write_15 : decode cX8_write 15 = .ok (.aload_n 0, 1) := by decide +kernel
theorem dX8_write_16 : decode cX8_write 16 = .ok (.getfield 150, 3) := by decide +kernel
theorem dX8_write_19 : decode cX8_write 19 = .ok (.bipush 15, 2) := by decide +kernel
theorem dX8_write_21 : decode cX8_write 21 = .ok (.if_icmp .ne 6, 3) := by decide +kernel
theorem dX8_write_24 : decode cX8_write 24 = .ok (.ldc 83, 2) := by decide +kernel
theorem dX8_write_26 : decode cX8_write 26 = .ok (.ireturn, 1) := by decide +kernel
theorem dX8_write_27 : decode cX8_write 27 = .ok (.aload_n 0, 1) := by decide +kernel
theorem dX8_write_28 : decode cX8_write 28 = .ok (.getfield 60, 3) := by decide +kernel
theorem dX8_write_31 : decode cX8_write 31 = .ok (.aload_n 0, 1) := by decide +kernel
theorem dX8_write_32 : decode cX8_write 32 = .ok (.getfield 150, 3) := by decide +kernel
theorem dX8_write_35 : decode cX8_write 35 = .ok (.iload_n 1, 1) := by decide +kernel
theorem dX8_write_36 : decode cX8_write 36 = .ok (.iastore, 1) := by decide +kernel
theorem dX8_write_37 : decode cX8_write 37 = .ok (.aload_n 0, 1) := by decide +kernel
theorem dX8_write_38 : decode cX8_write 38 = .ok (.dup, 1) := by decide +kernel
theorem dX8_write_39 : decode cX8_write 39 = .ok (.getfield 150, 3) := by decide +kernel
theorem dX8_write_42 : decode cX8_write 42 = .ok (.iconst 1, 1) := by decide +kernel
theorem dX8_write_43 : decode cX8_write 43 = .ok (.iadd, 1) := by decide +kernel
theorem dX8_write_44 : decode cX8_write 44 = .ok (.putfield 150, 3) := by decide +kernel
theorem dX8_write_47 : decode cX8_write 47 = .ok (.aload_n 0, 1) := by decide +kernel
theorem dX8_write_48 : decode cX8_write 48 = .ok (.getfield 150, 3) := by decide +kernel
theorem dX8_write_51 : decode cX8_write 51 = .ok (.ireturn, 1) := by decide +kernel
theorem dX8_tear_0 : decode cX8_tear 0 = .ok (.aload_n 0, 1) := by decide +kernel
theorem dX8_tear_1 : decode cX8_tear 1 = .ok (.getfield 147, 3) := by decide +kernel
theorem dX8_tear_4 : decode cX8_tear 4 = .ok (.aload_n 0, 1) := by decide +kernel
theorem dX8_tear_5 : decode cX8_tear 5 = .ok (.getfield 150, 3) := by decide +kernel
theorem dX8_tear_8 : decode cX8_tear 8 = .ok (.iadd, 1) := by decide +kernel
theorem dX8_tear_9 : decode cX8_tear 9 = .ok (.istore_n 1, 1) := by decide +kernel
theorem dX8_tear_10 : decode cX8_tear 10 = .ok (.aload_n 0, 1) := by decide +kernel
theorem dX8_tear_11 : decode cX8_tear 11 = .ok (.iconst 0, 1) := by decide +kernel
theorem dX8_tear_12 : decode cX8_tear 12 = .ok (.putfield 147, 3) := by decide +kernel
theorem dX8_tear_15 : decode cX8_tear 15 = .ok (.aload_n 0, 1) := by decide +kernel
theorem dX8_tear_16 : decode cX8_tear 16 = .ok (.iconst 0, 1) := by decide +kernel
theorem dX8_tear_17 : decode cX8_tear 17 = .ok (.putfield 150, 3) := by decide +kernel
theorem dX8_tear_20 : decode cX8_tear 20 = .ok (.iload_n 1, 1) := by decide +kernel
theorem dX8_tear_21 : decode cX8_tear 21 = .ok (.ireturn, 1) := by decide +kernel
theorem dX8_judge_0 : decode cX8_judge 0 = .ok (.iconst 0, 1) := by decide +kernel
theorem dX8_judge_1 : decode cX8_judge 1 = .ok (.istore_n 1, 1) := by decide +kernel
theorem dX8_judge_2 : decode cX8_judge 2 = .ok (.iload_n 1, 1) := by decide +kernel
theorem dX8_judge_3 : decode cX8_judge 3 = .ok (.aload_n 0, 1) := by decide +kernel
theorem dX8_judge_4 : decode cX8_judge 4 = .ok (.getfield 150, 3) := by decide +kernel
theorem dX8_judge_7 : decode cX8_judge 7 = .ok (.if_icmp .ge 26, 3) := by decide +kernel
theorem dX8_judge_10 : decode cX8_judge 10 = .ok (.aload_n 0, 1) := by decide +kernel
theorem dX8_judge_11 : decode cX8_judge 11 = .ok (.getfield 60, 3) := by decide +kernel
theorem dX8_judge_14 : decode cX8_judge 14 = .ok (.iload_n 1, 1) := by decide +kernel
theorem dX8_judge_15 : decode cX8_judge 15 = .ok (.iaload, 1) := by decide +kernel
theorem dX8_judge_16 : decode cX8_judge 16 = .ok (.aload_n 0, 1) := by decide +kernel
theorem dX8_judge_17 : decode cX8_judge 17 = .ok (.getfield 7, 3) := by decide +kernel
theorem dX8_judge_20 : decode cX8_judge 20 = .ok (.iconst 3, 1) := by decide +kernel
theorem dX8_judge_21 : decode cX8_judge 21 = .ok (.iaload, 1) := by decide +kernel
theorem dX8_judge_22 : decode cX8_judge 22 = .ok (.if_icmp .eq 5, 3) := by decide +kernel
theorem dX8_judge_25 : decode cX8_judge 25 = .ok (.iload_n 1, 1) := by decide +kernel
theorem dX8_judge_26 : decode cX8_judge 26 = .ok (.ireturn, 1) := by decide +kernel
theorem dX8_judge_27 : decode cX8_judge 27 = .ok (.iinc 1 1, 3) := by decide +kernel
theorem dX8_judge_30 : decode cX8_judge 30 = .ok (.goto (-28), 3) := by decide +kernel
theorem dX8_judge_33 : decode cX8_judge 33 = .ok (.iconst (-1), 1) := by decide +kernel
theorem dX8_judge_34 : decode cX8_judge 34 = .ok (.ireturn, 1) := by decide +kernel
theorem dX8_seed_0 : decode cX8_seed 0 = .ok (.iload_n 1, 1) := by decide +kernel
theorem dX8_seed_1 : decode cX8_seed 1 = .ok (.ifCond .ge 6, 3) := by decide +kernel
theorem dX8_seed_4 : decode cX8_seed 4 = .ok (.ldc 79, 2) := by decide +kernel
theorem dX8_seed_6 : decode cX8_seed 6 = .ok (.ireturn, 1) := by decide +kernel
theorem dX8_seed_7 : decode cX8_seed 7 = .ok (.aload_n 0, 1) := by decide +kernel
theorem dX8_seed_8 : decode cX8_seed 8 = .ok (.getfield 7, 3) := by decide +kernel
theorem dX8_seed_11 : decode cX8_seed 11 = .ok (.bipush 41, 2) := by decide +kernel
theorem dX8_seed_13 : decode cX8_seed 13 = .ok (.iaload, 1) := by decide +kernel
theorem dX8_seed_14 : decode cX8_seed 14 = .ok (.istore_n 2, 1) := by decide +kernel
theorem dX8_seed_15 : decode cX8_seed 15 = .ok (.aload_n 0, 1) := by decide +kernel
theorem dX8_seed_16 : decode cX8_seed 16 = .ok (.getfield 7, 3) := by decide +kernel
theorem dX8_seed_19 : decode cX8_seed 19 = .ok (.bipush 41, 2) := by decide +kernel
theorem dX8_seed_21 : decode cX8_seed 21 = .ok (.iload_n 1, 1) := by decide +kernel
theorem dX8_seed_22 : decode cX8_seed 22 = .ok (.iastore, 1) := by decide +kernel
theorem dX8_seed_23 : decode cX8_seed 23 = .ok (.iload_n 2, 1) := by decide +kernel
theorem dX8_seed_24 : decode cX8_seed 24 = .ok (.ireturn, 1) := by decide +kernel
theorem dX8_keep_0 : decode cX8_keep 0 = .ok (.iload_n 1, 1) := by decide +kernel
theorem dX8_keep_1 : decode cX8_keep 1 = .ok (.i2l, 1) := by decide +kernel
theorem dX8_keep_2 : decode cX8_keep 2 = .ok (.lconst 0, 1) := by decide +kernel
theorem dX8_keep_3 : decode cX8_keep 3 = .ok (.lconst 1, 1) := by decide +kernel
theorem dX8_keep_4 : decode cX8_keep 4 = .ok (.invokestatic 70, 3) := by decide +kernel
theorem dX8_keep_7 : decode cX8_keep 7 = .ok (.ifCond .ne 6, 3) := by decide +kernel
theorem dX8_keep_10 : decode cX8_keep 10 = .ok (.ldc 183, 2) := by decide +kernel
theorem dX8_keep_12 : decode cX8_keep 12 = .ok (.ireturn, 1) := by decide +kernel
theorem dX8_keep_13 : decode cX8_keep 13 = .ok (.aload_n 0, 1) := by decide +kernel
theorem dX8_keep_14 : decode cX8_keep 14 = .ok (.iconst 0, 1) := by decide +kernel
theorem dX8_keep_15 : decode cX8_keep 15 = .ok (.bipush 84, 2) := by decide +kernel
theorem dX8_keep_17 : decode cX8_keep 17 = .ok (.bipush 42, 2) := by decide +kernel
theorem dX8_keep_19 : decode cX8_keep 19 = .ok (.iload_n 1, 1) := by decide +kernel
theorem dX8_keep_20 : decode cX8_keep 20 = .ok (.imul, 1) := by decide +kernel
theorem dX8_keep_21 : decode cX8_keep 21 = .ok (.iadd, 1) := by decide +kernel
theorem dX8_keep_22 : decode cX8_keep 22 = .ok (.invokevirtual 199, 3) := by decide +kernel
theorem dX8_keep_25 : decode cX8_keep 25 = .ok (.aload_n 0, 1) := by decide +kernel
theorem dX8_keep_26 : decode cX8_keep 26 = .ok (.getfield 13, 3) := by decide +kernel
theorem dX8_keep_29 : decode cX8_keep 29 = .ok (.iload_n 1, 1) := by decide +kernel
theorem dX8_keep_30 : decode cX8_keep 30 = .ok (.iconst 1, 1) := by decide +kernel
theorem dX8_keep_31 : decode cX8_keep 31 = .ok (.bastore, 1) := by decide +kernel
theorem dX8_keep_32 : decode cX8_keep 32 = .ok (.aload_n 0, 1) := by decide +kernel
theorem dX8_keep_33 : decode cX8_keep 33 = .ok (.iconst 0, 1) := by decide +kernel
theorem dX8_keep_34 : decode cX8_keep 34 = .ok (.putfield 153, 3) := by decide +kernel
theorem dX8_keep_37 : decode cX8_keep 37 = .ok (.iconst 1, 1) := by decide +kernel
theorem dX8_keep_38 : decode cX8_keep 38 = .ok (.ireturn, 1) := by decide +kernel
theorem dX8_goBack_0 : decode cX8_goBack 0 = .ok (.iload_n 1, 1) := by decide +kernel
theorem dX8_goBack_1 : decode cX8_goBack 1 = .ok (.i2l, 1) := by decide +kernel
theorem dX8_goBack_2 : decode cX8_goBack 2 = .ok (.lconst 0, 1) := by decide +kernel
theorem dX8_goBack_3 : decode cX8_goBack 3 = .ok (.lconst 1, 1) := by decide +kernel
theorem dX8_goBack_4 : decode cX8_goBack 4 = .ok (.invokestatic 70, 3) := by decide +kernel
theorem dX8_goBack_7 : decode cX8_goBack 7 = .ok (.ifCond .ne 6, 3) := by decide +kernel
theorem dX8_goBack_10 : decode cX8_goBack 10 = .ok (.ldc 183, 2) := by decide +kernel
theorem dX8_goBack_12 : decode cX8_goBack 12 = .ok (.ireturn, 1) := by decide +kernel
theorem dX8_goBack_13 : decode cX8_goBack 13 = .ok (.aload_n 0, 1) := by decide +kernel
theorem dX8_goBack_14 : decode cX8_goBack 14 = .ok (.getfield 13, 3) := by decide +kernel
theorem dX8_goBack_17 : decode cX8_goBack 17 = .ok (.iload_n 1, 1) := by decide +kernel
theorem dX8_goBack_18 : decode cX8_goBack 18 = .ok (.baload, 1) := by decide +kernel
theorem dX8_goBack_19 : decode cX8_goBack 19 = .ok (.ifCond .ne 6, 3) := by decide +kernel
theorem dX8_goBack_22 : decode cX8_goBack 22 = .ok (.ldc 202, 2) := by decide +kernel
theorem dX8_goBack_24 : decode cX8_goBack 24 = .ok (.ireturn, 1) := by decide +kernel
theorem dX8_goBack_25 : decode cX8_goBack 25 = .ok (.aload_n 0, 1) := by decide +kernel
theorem dX8_goBack_26 : decode cX8_goBack 26 = .ok (.bipush 84, 2) := by decide +kernel
theorem dX8_goBack_28 : decode cX8_goBack 28 = .ok (.bipush 42, 2) := by decide +kernel
theorem dX8_goBack_30 : decode cX8_goBack 30 = .ok (.iload_n 1, 1) := by decide +kernel
theorem dX8_goBack_31 : decode cX8_goBack 31 = .ok (.imul, 1) := by decide +kernel
theorem dX8_goBack_32 : decode cX8_goBack 32 = .ok (.iadd, 1) := by decide +kernel
theorem dX8_goBack_33 : decode cX8_goBack 33 = .ok (.iconst 0, 1) := by decide +kernel
theorem dX8_goBack_34 : decode cX8_goBack 34 = .ok (.invokevirtual 199, 3) := by decide +kernel
theorem dX8_goBack_37 : decode cX8_goBack 37 = .ok (.aload_n 0, 1) := by decide +kernel
theorem dX8_goBack_38 : decode cX8_goBack 38 = .ok (.iconst 0, 1) := by decide +kernel
theorem dX8_goBack_39 : decode cX8_goBack 39 = .ok (.putfield 153, 3) := by decide +kernel
theorem dX8_goBack_42 : decode cX8_goBack 42 = .ok (.iconst 1, 1) := by decide +kernel
theorem dX8_goBack_43 : decode cX8_goBack 43 = .ok (.ireturn, 1) := by decide +kernel
end
section
theorem dL_law_0 : decode cL_law 0 = .ok (.new 7, 3) := by decide +kernel
theorem dL_law_3 : decode cL_law 3 = .ok (.dup, 1) := by decide +kernel
theorem dL_law_4 : decode cL_law 4 = .ok (.invokespecial 9, 3) := by decide +kernel
theorem dL_law_7 : decode cL_law 7 = .ok (.astore_n 1, 1) := by decide +kernel
theorem dL_law_8 : decode cL_law 8 = .ok (.new 10, 3) := by decide +kernel
theorem dL_law_11 : decode cL_law 11 = .ok (.dup, 1) := by decide +kernel
theorem dL_law_12 : decode cL_law 12 = .ok (.invokespecial 12, 3) := by decide +kernel
theorem dL_law_15 : decode cL_law 15 = .ok (.astore_n 2, 1) := by decide +kernel
theorem dL_law_16 : decode cL_law 16 = .ok (.iconst 0, 1) := by decide +kernel
theorem dL_law_17 : decode cL_law 17 = .ok (.istore_n 3, 1) := by decide +kernel
theorem dL_law_18 : decode cL_law 18 = .ok (.iload_n 3, 1) := by decide +kernel
theorem dL_law_19 : decode cL_law 19 = .ok (.aload_n 0, 1) := by decide +kernel
theorem dL_law_20 : decode cL_law 20 = .ok (.arraylength, 1) := by decide +kernel
theorem dL_law_21 : decode cL_law 21 = .ok (.iconst 4, 1) := by decide +kernel
theorem dL_law_22 : decode cL_law 22 = .ok (.isub, 1) := by decide +kernel
theorem dL_law_23 : decode cL_law 23 = .ok (.if_icmp .gt 892, 3) := by decide +kernel
theorem dL_law_26 : decode cL_law 26 = .ok (.aload_n 0, 1) := by decide +kernel
theorem dL_law_27 : decode cL_law 27 = .ok (.iload_n 3, 1) := by decide +kernel
theorem dL_law_28 : decode cL_law 28 = .ok (.iaload, 1) := by decide +kernel
theorem dL_law_29 : decode cL_law 29 = .ok (.bipush 31, 2) := by decide +kernel
theorem dL_law_31 : decode cL_law 31 = .ok (.iand, 1) := by decide +kernel
theorem dL_law_32 : decode cL_law 32 = .ok (.tableswitch 877 0 28 #[132, 155, 168, 181, 204, 237, 270, 303, 362, 385, 424, 447, 460, 473, 486, 499, 522, 581, 614, 637, 670, 703, 736, 759, 782, 795, 808, 831, 854], 132) := by decide +kernel
theorem dL_law_164 : decode cL_law 164 = .ok (.aload_n 1, 1) := by decide +kernel
theorem dL_law_165 : decode cL_law 165 = .ok (.aload_n 0, 1) := by decide +kernel
theorem dL_law_166 : decode cL_law 166 = .ok (.iload_n 3, 1) := by decide +kernel
theorem dL_law_167 : decode cL_law 167 = .ok (.iconst 1, 1) := by decide +kernel
theorem dL_law_168 : decode cL_law 168 = .ok (.iadd, 1) := by decide +kernel
theorem dL_law_169 : decode cL_law 169 = .ok (.iaload, 1) := by decide +kernel
theorem dL_law_170 : decode cL_law 170 = .ok (.invokevirtual 13, 3) := by decide +kernel
theorem dL_law_173 : decode cL_law 173 = .ok (.aload_n 2, 1) := by decide +kernel
theorem dL_law_174 : decode cL_law 174 = .ok (.aload_n 0, 1) := by decide +kernel
theorem dL_law_175 : decode cL_law 175 = .ok (.iload_n 3, 1) := by decide +kernel
theorem dL_law_176 : decode cL_law 176 = .ok (.iconst 1, 1) := by decide +kernel
theorem dL_law_177 : decode cL_law 177 = .ok (.iadd, 1) := by decide +kernel
theorem dL_law_178 : decode cL_law 178 = .ok (.iaload, 1) := by decide +kernel
theorem dL_law_179 : decode cL_law 179 = .ok (.invokevirtual 17, 3) := by decide +kernel
theorem dL_law_182 : decode cL_law 182 = .ok (.if_icmp .eq 727, 3) := by decide +kernel
theorem dL_law_185 : decode cL_law 185 = .ok (.iconst 0, 1) := by decide +kernel
theorem dL_law_186 : decode cL_law 186 = .ok (.ireturn, 1) := by decide +kernel
theorem dL_law_187 : decode cL_law 187 = .ok (.aload_n 1, 1) := by decide +kernel
theorem dL_law_188 : decode cL_law 188 = .ok (.invokevirtual 18, 3) := by decide +kernel
theorem dL_law_191 : decode cL_law 191 = .ok (.aload_n 2, 1) := by decide +kernel
theorem dL_law_192 : decode cL_law 192 = .ok (.invokevirtual 22, 3) := by decide +kernel
theorem dL_law_195 : decode cL_law 195 = .ok (.if_icmp .eq 714, 3) := by decide +kernel
theorem dL_law_198 : decode cL_law 198 = .ok (.iconst 0, 1) := by decide +kernel
theorem dL_law_199 : decode cL_law 199 = .ok (.ireturn, 1) := by decide +kernel
theorem dL_law_200 : decode cL_law 200 = .ok (.aload_n 1, 1) := by decide +kernel
theorem dL_law_201 : decode cL_law 201 = .ok (.invokevirtual 23, 3) := by decide +kernel
theorem dL_law_204 : decode cL_law 204 = .ok (.aload_n 2, 1) := by decide +kernel
theorem dL_law_205 : decode cL_law 205 = .ok (.invokevirtual 26, 3) := by decide +kernel
theorem dL_law_208 : decode cL_law 208 = .ok (.if_icmp .eq 701, 3) := by decide +kernel
theorem dL_law_211 : decode cL_law 211 = .ok (.iconst 0, 1) := by decide +kernel
theorem dL_law_212 : decode cL_law 212 = .ok (.ireturn, 1) := by decide +kernel
theorem dL_law_213 : decode cL_law 213 = .ok (.aload_n 1, 1) := by decide +kernel
theorem dL_law_214 : decode cL_law 214 = .ok (.aload_n 0, 1) := by decide +kernel
theorem dL_law_215 : decode cL_law 215 = .ok (.iload_n 3, 1) := by decide +kernel
theorem dL_law_216 : decode cL_law 216 = .ok (.iconst 1, 1) := by decide +kernel
theorem dL_law_217 : decode cL_law 217 = .ok (.iadd, 1) := by decide +kernel
theorem dL_law_218 : decode cL_law 218 = .ok (.iaload, 1) := by decide +kernel
theorem dL_law_219 : decode cL_law 219 = .ok (.invokevirtual 27, 3) := by decide +kernel
theorem dL_law_222 : decode cL_law 222 = .ok (.aload_n 2, 1) := by decide +kernel
theorem dL_law_223 : decode cL_law 223 = .ok (.aload_n 0, 1) := by decide +kernel
theorem dL_law_224 : decode cL_law 224 = .ok (.iload_n 3, 1) := by decide +kernel
theorem dL_law_225 : decode cL_law 225 = .ok (.iconst 1, 1) := by decide +kernel
theorem dL_law_226 : decode cL_law 226 = .ok (.iadd, 1) := by decide +kernel
theorem dL_law_227 : decode cL_law 227 = .ok (.iaload, 1) := by decide +kernel
theorem dL_law_228 : decode cL_law 228 = .ok (.invokevirtual 30, 3) := by decide +kernel
theorem dL_law_231 : decode cL_law 231 = .ok (.if_icmp .eq 678, 3) := by decide +kernel
theorem dL_law_234 : decode cL_law 234 = .ok (.iconst 0, 1) := by decide +kernel
theorem dL_law_235 : decode cL_law 235 = .ok (.ireturn, 1) := by decide +kernel
theorem dL_law_236 : decode cL_law 236 = .ok (.aload_n 1, 1) := by decide +kernel
theorem dL_law_237 : decode cL_law 237 = .ok (.aload_n 0, 1) := by decide +kernel
theorem dL_law_238 : decode cL_law 238 = .ok (.iload_n 3, 1) := by decide +kernel
theorem dL_law_239 : decode cL_law 239 = .ok (.iconst 1, 1) := by decide +kernel
theorem dL_law_240 : decode cL_law 240 = .ok (.iadd, 1) := by decide +kernel
theorem dL_law_241 : decode cL_law 241 = .ok (.iaload, 1) := by decide +kernel
theorem dL_law_242 : decode cL_law 242 = .ok (.aload_n 0, 1) := by decide +kernel
theorem dL_law_243 : decode cL_law 243 = .ok (.iload_n 3, 1) := by decide +kernel
theorem dL_law_244 : decode cL_law 244 = .ok (.iconst 2, 1) := by decide +kernel
theorem dL_law_245 : decode cL_law 245 = .ok (.iadd, 1) := by decide +kernel
theorem dL_law_246 : decode cL_law 246 = .ok (.iaload, 1) := by decide +kernel
theorem dL_law_247 : decode cL_law 247 = .ok (.invokevirtual 31, 3) := by decide +kernel
theorem dL_law_250 : decode cL_law 250 = .ok (.aload_n 2, 1) := by decide +kernel
theorem dL_law_251 : decode cL_law 251 = .ok (.aload_n 0, 1) := by decide +kernel
theorem dL_law_252 : decode cL_law 252 = .ok (.iload_n 3, 1) := by decide +kernel
theorem dL_law_253 : decode cL_law 253 = .ok (.iconst 1, 1) := by decide +kernel
theorem dL_law_254 : decode cL_law 254 = .ok (.iadd, 1) := by decide +kernel
theorem dL_law_255 : decode cL_law 255 = .ok (.iaload, 1) := by decide +kernel
theorem dL_law_256 : decode cL_law 256 = .ok (.aload_n 0, 1) := by decide +kernel
theorem dL_law_257 : decode cL_law 257 = .ok (.iload_n 3, 1) := by decide +kernel
theorem dL_law_258 : decode cL_law 258 = .ok (.iconst 2, 1) := by decide +kernel
theorem dL_law_259 : decode cL_law 259 = .ok (.iadd, 1) := by decide +kernel
theorem dL_law_260 : decode cL_law 260 = .ok (.iaload, 1) := by decide +kernel
theorem dL_law_261 : decode cL_law 261 = .ok (.invokevirtual 35, 3) := by decide +kernel
theorem dL_law_264 : decode cL_law 264 = .ok (.if_icmp .eq 645, 3) := by decide +kernel
theorem dL_law_267 : decode cL_law 267 = .ok (.iconst 0, 1) := by decide +kernel
theorem dL_law_268 : decode cL_law 268 = .ok (.ireturn, 1) := by decide +kernel
theorem dL_law_269 : decode cL_law 269 = .ok (.aload_n 1, 1) := by decide +kernel
theorem dL_law_270 : decode cL_law 270 = .ok (.aload_n 0, 1) := by decide +kernel
theorem dL_law_271 : decode cL_law 271 = .ok (.iload_n 3, 1) := by decide +kernel
theorem dL_law_272 : decode cL_law 272 = .ok (.iconst 1, 1) := by decide +kernel
theorem dL_law_273 : decode cL_law 273 = .ok (.iadd, 1) := by decide +kernel
theorem dL_law_274 : decode cL_law 274 = .ok (.iaload, 1) := by decide +kernel
theorem dL_law_275 : decode cL_law 275 = .ok (.aload_n 0, 1) := by decide +kernel
theorem dL_law_276 : decode cL_law 276 = .ok (.iload_n 3, 1) := by decide +kernel
theorem dL_law_277 : decode cL_law 277 = .ok (.iconst 2, 1) := by decide +kernel
theorem dL_law_278 : decode cL_law 278 = .ok (.iadd, 1) := by decide +kernel
theorem dL_law_279 : decode cL_law 279 = .ok (.iaload, 1) := by decide +kernel
theorem dL_law_280 : decode cL_law 280 = .ok (.invokevirtual 36, 3) := by decide +kernel
theorem dL_law_283 : decode cL_law 283 = .ok (.aload_n 2, 1) := by decide +kernel
theorem dL_law_284 : decode cL_law 284 = .ok (.aload_n 0, 1) := by decide +kernel
theorem dL_law_285 : decode cL_law 285 = .ok (.iload_n 3, 1) := by decide +kernel
theorem dL_law_286 : decode cL_law 286 = .ok (.iconst 1, 1) := by decide +kernel
theorem dL_law_287 : decode cL_law 287 = .ok (.iadd, 1) := by decide +kernel
theorem dL_law_288 : decode cL_law 288 = .ok (.iaload, 1) := by decide +kernel
theorem dL_law_289 : decode cL_law 289 = .ok (.aload_n 0, 1) := by decide +kernel
theorem dL_law_290 : decode cL_law 290 = .ok (.iload_n 3, 1) := by decide +kernel
theorem dL_law_291 : decode cL_law 291 = .ok (.iconst 2, 1) := by decide +kernel
theorem dL_law_292 : decode cL_law 292 = .ok (.iadd, 1) := by decide +kernel
theorem dL_law_293 : decode cL_law 293 = .ok (.iaload, 1) := by decide +kernel
theorem dL_law_294 : decode cL_law 294 = .ok (.invokevirtual 39, 3) := by decide +kernel
theorem dL_law_297 : decode cL_law 297 = .ok (.if_icmp .eq 612, 3) := by decide +kernel
theorem dL_law_300 : decode cL_law 300 = .ok (.iconst 0, 1) := by decide +kernel
theorem dL_law_301 : decode cL_law 301 = .ok (.ireturn, 1) := by decide +kernel
theorem dL_law_302 : decode cL_law 302 = .ok (.aload_n 1, 1) := by decide +kernel
theorem dL_law_303 : decode cL_law 303 = .ok (.aload_n 0, 1) := by decide +kernel
theorem dL_law_304 : decode cL_law 304 = .ok (.iload_n 3, 1) := by decide +kernel
theorem dL_law_305 : decode cL_law 305 = .ok (.iconst 1, 1) := by decide +kernel
theorem dL_law_306 : decode cL_law 306 = .ok (.iadd, 1) := by decide +kernel
theorem dL_law_307 : decode cL_law 307 = .ok (.iaload, 1) := by decide +kernel
theorem dL_law_308 : decode cL_law 308 = .ok (.aload_n 0, 1) := by decide +kernel
theorem dL_law_309 : decode cL_law 309 = .ok (.iload_n 3, 1) := by decide +kernel
theorem dL_law_310 : decode cL_law 310 = .ok (.iconst 2, 1) := by decide +kernel
theorem dL_law_311 : decode cL_law 311 = .ok (.iadd, 1) := by decide +kernel
theorem dL_law_312 : decode cL_law 312 = .ok (.iaload, 1) := by decide +kernel
theorem dL_law_313 : decode cL_law 313 = .ok (.invokevirtual 40, 3) := by decide +kernel
theorem dL_law_316 : decode cL_law 316 = .ok (.aload_n 2, 1) := by decide +kernel
theorem dL_law_317 : decode cL_law 317 = .ok (.aload_n 0, 1) := by decide +kernel
theorem dL_law_318 : decode cL_law 318 = .ok (.iload_n 3, 1) := by decide +kernel
theorem dL_law_319 : decode cL_law 319 = .ok (.iconst 1, 1) := by decide +kernel
theorem dL_law_320 : decode cL_law 320 = .ok (.iadd, 1) := by decide +kernel
theorem dL_law_321 : decode cL_law 321 = .ok (.iaload, 1) := by decide +kernel
theorem dL_law_322 : decode cL_law 322 = .ok (.aload_n 0, 1) := by decide +kernel
theorem dL_law_323 : decode cL_law 323 = .ok (.iload_n 3, 1) := by decide +kernel
theorem dL_law_324 : decode cL_law 324 = .ok (.iconst 2, 1) := by decide +kernel
theorem dL_law_325 : decode cL_law 325 = .ok (.iadd, 1) := by decide +kernel
theorem dL_law_326 : decode cL_law 326 = .ok (.iaload, 1) := by decide +kernel
theorem dL_law_327 : decode cL_law 327 = .ok (.invokevirtual 43, 3) := by decide +kernel
theorem dL_law_330 : decode cL_law 330 = .ok (.if_icmp .eq 579, 3) := by decide +kernel
theorem dL_law_333 : decode cL_law 333 = .ok (.iconst 0, 1) := by decide +kernel
theorem dL_law_334 : decode cL_law 334 = .ok (.ireturn, 1) := by decide +kernel
theorem dL_law_335 : decode cL_law 335 = .ok (.aload_n 1, 1) := by decide +kernel
theorem dL_law_336 : decode cL_law 336 = .ok (.aload_n 0, 1) := by decide +kernel
theorem dL_law_337 : decode cL_law 337 = .ok (.iload_n 3, 1) := by decide +kernel
theorem dL_law_338 : decode cL_law 338 = .ok (.iconst 1, 1) := by decide +kernel
theorem dL_law_339 : decode cL_law 339 = .ok (.iadd, 1) := by decide +kernel
theorem dL_law_340 : decode cL_law 340 = .ok (.iaload, 1) := by decide +kernel
theorem dL_law_341 : decode cL_law 341 = .ok (.aload_n 0, 1) := by decide +kernel
theorem dL_law_342 : decode cL_law 342 = .ok (.iload_n 3, 1) := by decide +kernel
theorem dL_law_343 : decode cL_law 343 = .ok (.iconst 2, 1) := by decide +kernel
theorem dL_law_344 : decode cL_law 344 = .ok (.iadd, 1) := by decide +kernel
theorem dL_law_345 : decode cL_law 345 = .ok (.iaload, 1) := by decide +kernel
theorem dL_law_346 : decode cL_law 346 = .ok (.aload_n 0, 1) := by decide +kernel
theorem dL_law_347 : decode cL_law 347 = .ok (.iload_n 3, 1) := by decide +kernel
theorem dL_law_348 : decode cL_law 348 = .ok (.iconst 3, 1) := by decide +kernel
theorem dL_law_349 : decode cL_law 349 = .ok (.iadd, 1) := by decide +kernel
theorem dL_law_350 : decode cL_law 350 = .ok (.iaload, 1) := by decide +kernel
theorem dL_law_351 : decode cL_law 351 = .ok (.ifCond .eq 7, 3) := by decide +kernel
theorem dL_law_354 : decode cL_law 354 = .ok (.iconst 1, 1) := by decide +kernel
theorem dL_law_355 : decode cL_law 355 = .ok (.goto 4, 3) := by decide +kernel
theorem dL_law_358 : decode cL_law 358 = .ok (.iconst 0, 1) := by decide +kernel
theorem dL_law_359 : decode cL_law 359 = .ok (.invokevirtual 44, 3) := by decide +kernel
theorem dL_law_362 : decode cL_law 362 = .ok (.aload_n 2, 1) := by decide +kernel
theorem dL_law_363 : decode cL_law 363 = .ok (.aload_n 0, 1) := by decide +kernel
theorem dL_law_364 : decode cL_law 364 = .ok (.iload_n 3, 1) := by decide +kernel
theorem dL_law_365 : decode cL_law 365 = .ok (.iconst 1, 1) := by decide +kernel
theorem dL_law_366 : decode cL_law 366 = .ok (.iadd, 1) := by decide +kernel
theorem dL_law_367 : decode cL_law 367 = .ok (.iaload, 1) := by decide +kernel
theorem dL_law_368 : decode cL_law 368 = .ok (.aload_n 0, 1) := by decide +kernel
theorem dL_law_369 : decode cL_law 369 = .ok (.iload_n 3, 1) := by decide +kernel
theorem dL_law_370 : decode cL_law 370 = .ok (.iconst 2, 1) := by decide +kernel
theorem dL_law_371 : decode cL_law 371 = .ok (.iadd, 1) := by decide +kernel
theorem dL_law_372 : decode cL_law 372 = .ok (.iaload, 1) := by decide +kernel
theorem dL_law_373 : decode cL_law 373 = .ok (.aload_n 0, 1) := by decide +kernel
theorem dL_law_374 : decode cL_law 374 = .ok (.iload_n 3, 1) := by decide +kernel
theorem dL_law_375 : decode cL_law 375 = .ok (.iconst 3, 1) := by decide +kernel
theorem dL_law_376 : decode cL_law 376 = .ok (.iadd, 1) := by decide +kernel
theorem dL_law_377 : decode cL_law 377 = .ok (.iaload, 1) := by decide +kernel
theorem dL_law_378 : decode cL_law 378 = .ok (.ifCond .eq 7, 3) := by decide +kernel
theorem dL_law_381 : decode cL_law 381 = .ok (.iconst 1, 1) := by decide +kernel
theorem dL_law_382 : decode cL_law 382 = .ok (.goto 4, 3) := by decide +kernel
theorem dL_law_385 : decode cL_law 385 = .ok (.iconst 0, 1) := by decide +kernel
theorem dL_law_386 : decode cL_law 386 = .ok (.invokevirtual 48, 3) := by decide +kernel
theorem dL_law_389 : decode cL_law 389 = .ok (.if_icmp .eq 520, 3) := by decide +kernel
theorem dL_law_392 : decode cL_law 392 = .ok (.iconst 0, 1) := by decide +kernel
theorem dL_law_393 : decode cL_law 393 = .ok (.ireturn, 1) := by decide +kernel
theorem dL_law_394 : decode cL_law 394 = .ok (.aload_n 1, 1) := by decide +kernel
theorem dL_law_395 : decode cL_law 395 = .ok (.aload_n 0, 1) := by decide +kernel
theorem dL_law_396 : decode cL_law 396 = .ok (.iload_n 3, 1) := by decide +kernel
theorem dL_law_397 : decode cL_law 397 = .ok (.iconst 1, 1) := by decide +kernel
theorem dL_law_398 : decode cL_law 398 = .ok (.iadd, 1) := by decide +kernel
theorem dL_law_399 : decode cL_law 399 = .ok (.iaload, 1) := by decide +kernel
theorem dL_law_400 : decode cL_law 400 = .ok (.invokevirtual 49, 3) := by decide +kernel
theorem dL_law_403 : decode cL_law 403 = .ok (.aload_n 2, 1) := by decide +kernel
theorem dL_law_404 : decode cL_law 404 = .ok (.aload_n 0, 1) := by decide +kernel
theorem dL_law_405 : decode cL_law 405 = .ok (.iload_n 3, 1) := by decide +kernel
theorem dL_law_406 : decode cL_law 406 = .ok (.iconst 1, 1) := by decide +kernel
theorem dL_law_407 : decode cL_law 407 = .ok (.iadd, 1) := by decide +kernel
theorem dL_law_408 : decode cL_law 408 = .ok (.iaload, 1) := by decide +kernel
theorem dL_law_409 : decode cL_law 409 = .ok (.invokevirtual 52, 3) := by decide +kernel
theorem dL_law_412 : decode cL_law 412 = .ok (.if_icmp .eq 497, 3) := by decide +kernel
theorem dL_law_415 : decode cL_law 415 = .ok (.iconst 0, 1) := by decide +kernel
theorem dL_law_416 : decode cL_law 416 = .ok (.ireturn, 1) := by decide +kernel
theorem dL_law_417 : decode cL_law 417 = .ok (.aload_n 1, 1) := by decide +kernel
theorem dL_law_418 : decode cL_law 418 = .ok (.aload_n 0, 1) := by decide +kernel
theorem dL_law_419 : decode cL_law 419 = .ok (.iload_n 3, 1) := by decide +kernel
theorem dL_law_420 : decode cL_law 420 = .ok (.iconst 1, 1) := by decide +kernel
theorem dL_law_421 : decode cL_law 421 = .ok (.iadd, 1) := by decide +kernel
theorem dL_law_422 : decode cL_law 422 = .ok (.iaload, 1) := by decide +kernel
theorem dL_law_423 : decode cL_law 423 = .ok (.ifCond .eq 7, 3) := by decide +kernel
theorem dL_law_426 : decode cL_law 426 = .ok (.iconst 1, 1) := by decide +kernel
theorem dL_law_427 : decode cL_law 427 = .ok (.goto 4, 3) := by decide +kernel
theorem dL_law_430 : decode cL_law 430 = .ok (.iconst 0, 1) := by decide +kernel
theorem dL_law_431 : decode cL_law 431 = .ok (.invokevirtual 53, 3) := by decide +kernel
theorem dL_law_434 : decode cL_law 434 = .ok (.aload_n 2, 1) := by decide +kernel
theorem dL_law_435 : decode cL_law 435 = .ok (.aload_n 0, 1) := by decide +kernel
theorem dL_law_436 : decode cL_law 436 = .ok (.iload_n 3, 1) := by decide +kernel
theorem dL_law_437 : decode cL_law 437 = .ok (.iconst 1, 1) := by decide +kernel
theorem dL_law_438 : decode cL_law 438 = .ok (.iadd, 1) := by decide +kernel
theorem dL_law_439 : decode cL_law 439 = .ok (.iaload, 1) := by decide +kernel
theorem dL_law_440 : decode cL_law 440 = .ok (.ifCond .eq 7, 3) := by decide +kernel
theorem dL_law_443 : decode cL_law 443 = .ok (.iconst 1, 1) := by decide +kernel
theorem dL_law_444 : decode cL_law 444 = .ok (.goto 4, 3) := by decide +kernel
theorem dL_law_447 : decode cL_law 447 = .ok (.iconst 0, 1) := by decide +kernel
theorem dL_law_448 : decode cL_law 448 = .ok (.invokevirtual 57, 3) := by decide +kernel
theorem dL_law_451 : decode cL_law 451 = .ok (.if_icmp .eq 458, 3) := by decide +kernel
theorem dL_law_454 : decode cL_law 454 = .ok (.iconst 0, 1) := by decide +kernel
theorem dL_law_455 : decode cL_law 455 = .ok (.ireturn, 1) := by decide +kernel
theorem dL_law_456 : decode cL_law 456 = .ok (.aload_n 1, 1) := by decide +kernel
theorem dL_law_457 : decode cL_law 457 = .ok (.aload_n 0, 1) := by decide +kernel
theorem dL_law_458 : decode cL_law 458 = .ok (.iload_n 3, 1) := by decide +kernel
theorem dL_law_459 : decode cL_law 459 = .ok (.iconst 1, 1) := by decide +kernel
theorem dL_law_460 : decode cL_law 460 = .ok (.iadd, 1) := by decide +kernel
theorem dL_law_461 : decode cL_law 461 = .ok (.iaload, 1) := by decide +kernel
theorem dL_law_462 : decode cL_law 462 = .ok (.invokevirtual 58, 3) := by decide +kernel
theorem dL_law_465 : decode cL_law 465 = .ok (.aload_n 2, 1) := by decide +kernel
theorem dL_law_466 : decode cL_law 466 = .ok (.aload_n 0, 1) := by decide +kernel
theorem dL_law_467 : decode cL_law 467 = .ok (.iload_n 3, 1) := by decide +kernel
theorem dL_law_468 : decode cL_law 468 = .ok (.iconst 1, 1) := by decide +kernel
theorem dL_law_469 : decode cL_law 469 = .ok (.iadd, 1) := by decide +kernel
theorem dL_law_470 : decode cL_law 470 = .ok (.iaload, 1) := by decide +kernel
theorem dL_law_471 : decode cL_law 471 = .ok (.invokevirtual 61, 3) := by decide +kernel
theorem dL_law_474 : decode cL_law 474 = .ok (.if_icmp .eq 435, 3) := by decide +kernel
theorem dL_law_477 : decode cL_law 477 = .ok (.iconst 0, 1) := by decide +kernel
theorem dL_law_478 : decode cL_law 478 = .ok (.ireturn, 1) := by decide +kernel
theorem dL_law_479 : decode cL_law 479 = .ok (.aload_n 1, 1) := by decide +kernel
theorem dL_law_480 : decode cL_law 480 = .ok (.invokevirtual 62, 3) := by decide +kernel
theorem dL_law_483 : decode cL_law 483 = .ok (.aload_n 2, 1) := by decide +kernel
theorem dL_law_484 : decode cL_law 484 = .ok (.invokevirtual 65, 3) := by decide +kernel
theorem dL_law_487 : decode cL_law 487 = .ok (.if_icmp .eq 422, 3) := by decide +kernel
theorem dL_law_490 : decode cL_law 490 = .ok (.iconst 0, 1) := by decide +kernel
theorem dL_law_491 : decode cL_law 491 = .ok (.ireturn, 1) := by decide +kernel
theorem dL_law_492 : decode cL_law 492 = .ok (.aload_n 1, 1) := by decide +kernel
theorem dL_law_493 : decode cL_law 493 = .ok (.invokevirtual 66, 3) := by decide +kernel
theorem dL_law_496 : decode cL_law 496 = .ok (.aload_n 2, 1) := by decide +kernel
theorem dL_law_497 : decode cL_law 497 = .ok (.invokevirtual 69, 3) := by decide +kernel
theorem dL_law_500 : decode cL_law 500 = .ok (.if_icmp .eq 409, 3) := by decide +kernel
theorem dL_law_503 : decode cL_law 503 = .ok (.iconst 0, 1) := by decide +kernel
theorem dL_law_504 : decode cL_law 504 = .ok (.ireturn, 1) := by decide +kernel
theorem dL_law_505 : decode cL_law 505 = .ok (.aload_n 1, 1) := by decide +kernel
theorem dL_law_506 : decode cL_law 506 = .ok (.invokevirtual 70, 3) := by decide +kernel
theorem dL_law_509 : decode cL_law 509 = .ok (.aload_n 2, 1) := by decide +kernel
theorem dL_law_510 : decode cL_law 510 = .ok (.invokevirtual 73, 3) := by decide +kernel
theorem dL_law_513 : decode cL_law 513 = .ok (.if_icmp .eq 396, 3) := by decide +kernel
theorem dL_law_516 : decode cL_law 516 = .ok (.iconst 0, 1) := by decide +kernel
theorem dL_law_517 : decode cL_law 517 = .ok (.ireturn, 1) := by decide +kernel
theorem dL_law_518 : decode cL_law 518 = .ok (.aload_n 1, 1) := by decide +kernel
theorem dL_law_519 : decode cL_law 519 = .ok (.invokevirtual 74, 3) := by decide +kernel
theorem dL_law_522 : decode cL_law 522 = .ok (.aload_n 2, 1) := by decide +kernel
theorem dL_law_523 : decode cL_law 523 = .ok (.invokevirtual 77, 3) := by decide +kernel
theorem dL_law_526 : decode cL_law 526 = .ok (.if_icmp .eq 383, 3) := by decide +kernel
theorem dL_law_529 : decode cL_law 529 = .ok (.iconst 0, 1) := by decide +kernel
theorem dL_law_530 : decode cL_law 530 = .ok (.ireturn, 1) := by decide +kernel
theorem dL_law_531 : decode cL_law 531 = .ok (.aload_n 1, 1) := by decide +kernel
theorem dL_law_532 : decode cL_law 532 = .ok (.aload_n 0, 1) := by decide +kernel
theorem dL_law_533 : decode cL_law 533 = .ok (.iload_n 3, 1) := by decide +kernel
theorem dL_law_534 : decode cL_law 534 = .ok (.iconst 1, 1) := by decide +kernel
theorem dL_law_535 : decode cL_law 535 = .ok (.iadd, 1) := by decide +kernel
theorem dL_law_536 : decode cL_law 536 = .ok (.iaload, 1) := by decide +kernel
theorem dL_law_537 : decode cL_law 537 = .ok (.invokevirtual 78, 3) := by decide +kernel
theorem dL_law_540 : decode cL_law 540 = .ok (.aload_n 2, 1) := by decide +kernel
theorem dL_law_541 : decode cL_law 541 = .ok (.aload_n 0, 1) := by decide +kernel
theorem dL_law_542 : decode cL_law 542 = .ok (.iload_n 3, 1) := by decide +kernel
theorem dL_law_543 : decode cL_law 543 = .ok (.iconst 1, 1) := by decide +kernel
theorem dL_law_544 : decode cL_law 544 = .ok (.iadd, 1) := by decide +kernel
theorem dL_law_545 : decode cL_law 545 = .ok (.iaload, 1) := by decide +kernel
theorem dL_law_546 : decode cL_law 546 = .ok (.invokevirtual 81, 3) := by decide +kernel
theorem dL_law_549 : decode cL_law 549 = .ok (.if_icmp .eq 360, 3) := by decide +kernel
theorem dL_law_552 : decode cL_law 552 = .ok (.iconst 0, 1) := by decide +kernel
theorem dL_law_553 : decode cL_law 553 = .ok (.ireturn, 1) := by decide +kernel
theorem dL_law_554 : decode cL_law 554 = .ok (.aload_n 1, 1) := by decide +kernel
theorem dL_law_555 : decode cL_law 555 = .ok (.aload_n 0, 1) := by decide +kernel
theorem dL_law_556 : decode cL_law 556 = .ok (.iload_n 3, 1) := by decide +kernel
theorem dL_law_557 : decode cL_law 557 = .ok (.iconst 1, 1) := by decide +kernel
theorem dL_law_558 : decode cL_law 558 = .ok (.iadd, 1) := by decide +kernel
theorem dL_law_559 : decode cL_law 559 = .ok (.iaload, 1) := by decide +kernel
theorem dL_law_560 : decode cL_law 560 = .ok (.aload_n 0, 1) := by decide +kernel
theorem dL_law_561 : decode cL_law 561 = .ok (.iload_n 3, 1) := by decide +kernel
theorem dL_law_562 : decode cL_law 562 = .ok (.iconst 2, 1) := by decide +kernel
theorem dL_law_563 : decode cL_law 563 = .ok (.iadd, 1) := by decide +kernel
theorem dL_law_564 : decode cL_law 564 = .ok (.iaload, 1) := by decide +kernel
theorem dL_law_565 : decode cL_law 565 = .ok (.aload_n 0, 1) := by decide +kernel
theorem dL_law_566 : decode cL_law 566 = .ok (.iload_n 3, 1) := by decide +kernel
theorem dL_law_567 : decode cL_law 567 = .ok (.iconst 3, 1) := by decide +kernel
theorem dL_law_568 : decode cL_law 568 = .ok (.iadd, 1) := by decide +kernel
theorem dL_law_569 : decode cL_law 569 = .ok (.iaload, 1) := by decide +kernel
theorem dL_law_570 : decode cL_law 570 = .ok (.ifCond .eq 7, 3) := by decide +kernel
theorem dL_law_573 : decode cL_law 573 = .ok (.iconst 1, 1) := by decide +kernel
theorem dL_law_574 : decode cL_law 574 = .ok (.goto 4, 3) := by decide +kernel
theorem dL_law_577 : decode cL_law 577 = .ok (.iconst 0, 1) := by decide +kernel
theorem dL_law_578 : decode cL_law 578 = .ok (.invokevirtual 82, 3) := by decide +kernel
theorem dL_law_581 : decode cL_law 581 = .ok (.aload_n 2, 1) := by decide +kernel
theorem dL_law_582 : decode cL_law 582 = .ok (.aload_n 0, 1) := by decide +kernel
theorem dL_law_583 : decode cL_law 583 = .ok (.iload_n 3, 1) := by decide +kernel
theorem dL_law_584 : decode cL_law 584 = .ok (.iconst 1, 1) := by decide +kernel
theorem dL_law_585 : decode cL_law 585 = .ok (.iadd, 1) := by decide +kernel
theorem dL_law_586 : decode cL_law 586 = .ok (.iaload, 1) := by decide +kernel
theorem dL_law_587 : decode cL_law 587 = .ok (.aload_n 0, 1) := by decide +kernel
theorem dL_law_588 : decode cL_law 588 = .ok (.iload_n 3, 1) := by decide +kernel
theorem dL_law_589 : decode cL_law 589 = .ok (.iconst 2, 1) := by decide +kernel
theorem dL_law_590 : decode cL_law 590 = .ok (.iadd, 1) := by decide +kernel
theorem dL_law_591 : decode cL_law 591 = .ok (.iaload, 1) := by decide +kernel
theorem dL_law_592 : decode cL_law 592 = .ok (.aload_n 0, 1) := by decide +kernel
theorem dL_law_593 : decode cL_law 593 = .ok (.iload_n 3, 1) := by decide +kernel
theorem dL_law_594 : decode cL_law 594 = .ok (.iconst 3, 1) := by decide +kernel
theorem dL_law_595 : decode cL_law 595 = .ok (.iadd, 1) := by decide +kernel
theorem dL_law_596 : decode cL_law 596 = .ok (.iaload, 1) := by decide +kernel
theorem dL_law_597 : decode cL_law 597 = .ok (.ifCond .eq 7, 3) := by decide +kernel
theorem dL_law_600 : decode cL_law 600 = .ok (.iconst 1, 1) := by decide +kernel
theorem dL_law_601 : decode cL_law 601 = .ok (.goto 4, 3) := by decide +kernel
theorem dL_law_604 : decode cL_law 604 = .ok (.iconst 0, 1) := by decide +kernel
theorem dL_law_605 : decode cL_law 605 = .ok (.invokevirtual 85, 3) := by decide +kernel
theorem dL_law_608 : decode cL_law 608 = .ok (.if_icmp .eq 301, 3) := by decide +kernel
theorem dL_law_611 : decode cL_law 611 = .ok (.iconst 0, 1) := by decide +kernel
theorem dL_law_612 : decode cL_law 612 = .ok (.ireturn, 1) := by decide +kernel
theorem dL_law_613 : decode cL_law 613 = .ok (.aload_n 1, 1) := by decide +kernel
theorem dL_law_614 : decode cL_law 614 = .ok (.aload_n 0, 1) := by decide +kernel
theorem dL_law_615 : decode cL_law 615 = .ok (.iload_n 3, 1) := by decide +kernel
theorem dL_law_616 : decode cL_law 616 = .ok (.iconst 1, 1) := by decide +kernel
theorem dL_law_617 : decode cL_law 617 = .ok (.iadd, 1) := by decide +kernel
theorem dL_law_618 : decode cL_law 618 = .ok (.iaload, 1) := by decide +kernel
theorem dL_law_619 : decode cL_law 619 = .ok (.aload_n 0, 1) := by decide +kernel
theorem dL_law_620 : decode cL_law 620 = .ok (.iload_n 3, 1) := by decide +kernel
theorem dL_law_621 : decode cL_law 621 = .ok (.iconst 2, 1) := by decide +kernel
theorem dL_law_622 : decode cL_law 622 = .ok (.iadd, 1) := by decide +kernel
theorem dL_law_623 : decode cL_law 623 = .ok (.iaload, 1) := by decide +kernel
theorem dL_law_624 : decode cL_law 624 = .ok (.invokevirtual 86, 3) := by decide +kernel
theorem dL_law_627 : decode cL_law 627 = .ok (.aload_n 2, 1) := by decide +kernel
theorem dL_law_628 : decode cL_law 628 = .ok (.aload_n 0, 1) := by decide +kernel
theorem dL_law_629 : decode cL_law 629 = .ok (.iload_n 3, 1) := by decide +kernel
theorem dL_law_630 : decode cL_law 630 = .ok (.iconst 1, 1) := by decide +kernel
theorem dL_law_631 : decode cL_law 631 = .ok (.iadd, 1) := by decide +kernel
theorem dL_law_632 : decode cL_law 632 = .ok (.iaload, 1) := by decide +kernel
theorem dL_law_633 : decode cL_law 633 = .ok (.aload_n 0, 1) := by decide +kernel
theorem dL_law_634 : decode cL_law 634 = .ok (.iload_n 3, 1) := by decide +kernel
theorem dL_law_635 : decode cL_law 635 = .ok (.iconst 2, 1) := by decide +kernel
theorem dL_law_636 : decode cL_law 636 = .ok (.iadd, 1) := by decide +kernel
theorem dL_law_637 : decode cL_law 637 = .ok (.iaload, 1) := by decide +kernel
theorem dL_law_638 : decode cL_law 638 = .ok (.invokevirtual 89, 3) := by decide +kernel
theorem dL_law_641 : decode cL_law 641 = .ok (.if_icmp .eq 268, 3) := by decide +kernel
theorem dL_law_644 : decode cL_law 644 = .ok (.iconst 0, 1) := by decide +kernel
theorem dL_law_645 : decode cL_law 645 = .ok (.ireturn, 1) := by decide +kernel
theorem dL_law_646 : decode cL_law 646 = .ok (.aload_n 1, 1) := by decide +kernel
theorem dL_law_647 : decode cL_law 647 = .ok (.aload_n 0, 1) := by decide +kernel
theorem dL_law_648 : decode cL_law 648 = .ok (.iload_n 3, 1) := by decide +kernel
theorem dL_law_649 : decode cL_law 649 = .ok (.iconst 1, 1) := by decide +kernel
theorem dL_law_650 : decode cL_law 650 = .ok (.iadd, 1) := by decide +kernel
theorem dL_law_651 : decode cL_law 651 = .ok (.iaload, 1) := by decide +kernel
theorem dL_law_652 : decode cL_law 652 = .ok (.invokevirtual 90, 3) := by decide +kernel
theorem dL_law_655 : decode cL_law 655 = .ok (.aload_n 2, 1) := by decide +kernel
theorem dL_law_656 : decode cL_law 656 = .ok (.aload_n 0, 1) := by decide +kernel
theorem dL_law_657 : decode cL_law 657 = .ok (.iload_n 3, 1) := by decide +kernel
theorem dL_law_658 : decode cL_law 658 = .ok (.iconst 1, 1) := by decide +kernel
theorem dL_law_659 : decode cL_law 659 = .ok (.iadd, 1) := by decide +kernel
theorem dL_law_660 : decode cL_law 660 = .ok (.iaload, 1) := by decide +kernel
theorem dL_law_661 : decode cL_law 661 = .ok (.invokevirtual 93, 3) := by decide +kernel
theorem dL_law_664 : decode cL_law 664 = .ok (.if_icmp .eq 245, 3) := by decide +kernel
theorem dL_law_667 : decode cL_law 667 = .ok (.iconst 0, 1) := by decide +kernel
theorem dL_law_668 : decode cL_law 668 = .ok (.ireturn, 1) := by decide +kernel
theorem dL_law_669 : decode cL_law 669 = .ok (.aload_n 1, 1) := by decide +kernel
theorem dL_law_670 : decode cL_law 670 = .ok (.aload_n 0, 1) := by decide +kernel
theorem dL_law_671 : decode cL_law 671 = .ok (.iload_n 3, 1) := by decide +kernel
theorem dL_law_672 : decode cL_law 672 = .ok (.iconst 1, 1) := by decide +kernel
theorem dL_law_673 : decode cL_law 673 = .ok (.iadd, 1) := by decide +kernel
theorem dL_law_674 : decode cL_law 674 = .ok (.iaload, 1) := by decide +kernel
theorem dL_law_675 : decode cL_law 675 = .ok (.aload_n 0, 1) := by decide +kernel
theorem dL_law_676 : decode cL_law 676 = .ok (.iload_n 3, 1) := by decide +kernel
theorem dL_law_677 : decode cL_law 677 = .ok (.iconst 2, 1) := by decide +kernel
theorem dL_law_678 : decode cL_law 678 = .ok (.iadd, 1) := by decide +kernel
theorem dL_law_679 : decode cL_law 679 = .ok (.iaload, 1) := by decide +kernel
theorem dL_law_680 : decode cL_law 680 = .ok (.invokevirtual 94, 3) := by decide +kernel
theorem dL_law_683 : decode cL_law 683 = .ok (.aload_n 2, 1) := by decide +kernel
theorem dL_law_684 : decode cL_law 684 = .ok (.aload_n 0, 1) := by decide +kernel
theorem dL_law_685 : decode cL_law 685 = .ok (.iload_n 3, 1) := by decide +kernel
theorem dL_law_686 : decode cL_law 686 = .ok (.iconst 1, 1) := by decide +kernel
theorem dL_law_687 : decode cL_law 687 = .ok (.iadd, 1) := by decide +kernel
theorem dL_law_688 : decode cL_law 688 = .ok (.iaload, 1) := by decide +kernel
theorem dL_law_689 : decode cL_law 689 = .ok (.aload_n 0, 1) := by decide +kernel
theorem dL_law_690 : decode cL_law 690 = .ok (.iload_n 3, 1) := by decide +kernel
theorem dL_law_691 : decode cL_law 691 = .ok (.iconst 2, 1) := by decide +kernel
theorem dL_law_692 : decode cL_law 692 = .ok (.iadd, 1) := by decide +kernel
theorem dL_law_693 : decode cL_law 693 = .ok (.iaload, 1) := by decide +kernel
theorem dL_law_694 : decode cL_law 694 = .ok (.invokevirtual 97, 3) := by decide +kernel
theorem dL_law_697 : decode cL_law 697 = .ok (.if_icmp .eq 212, 3) := by decide +kernel
theorem dL_law_700 : decode cL_law 700 = .ok (.iconst 0, 1) := by decide +kernel
theorem dL_law_701 : decode cL_law 701 = .ok (.ireturn, 1) := by decide +kernel
theorem dL_law_702 : decode cL_law 702 = .ok (.aload_n 1, 1) := by decide +kernel
theorem dL_law_703 : decode cL_law 703 = .ok (.aload_n 0, 1) := by decide +kernel
theorem dL_law_704 : decode cL_law 704 = .ok (.iload_n 3, 1) := by decide +kernel
theorem dL_law_705 : decode cL_law 705 = .ok (.iconst 1, 1) := by decide +kernel
theorem dL_law_706 : decode cL_law 706 = .ok (.iadd, 1) := by decide +kernel
theorem dL_law_707 : decode cL_law 707 = .ok (.iaload, 1) := by decide +kernel
theorem dL_law_708 : decode cL_law 708 = .ok (.aload_n 0, 1) := by decide +kernel
theorem dL_law_709 : decode cL_law 709 = .ok (.iload_n 3, 1) := by decide +kernel
theorem dL_law_710 : decode cL_law 710 = .ok (.iconst 2, 1) := by decide +kernel
theorem dL_law_711 : decode cL_law 711 = .ok (.iadd, 1) := by decide +kernel
theorem dL_law_712 : decode cL_law 712 = .ok (.iaload, 1) := by decide +kernel
theorem dL_law_713 : decode cL_law 713 = .ok (.invokevirtual 98, 3) := by decide +kernel
theorem dL_law_716 : decode cL_law 716 = .ok (.aload_n 2, 1) := by decide +kernel
theorem dL_law_717 : decode cL_law 717 = .ok (.aload_n 0, 1) := by decide +kernel
theorem dL_law_718 : decode cL_law 718 = .ok (.iload_n 3, 1) := by decide +kernel
theorem dL_law_719 : decode cL_law 719 = .ok (.iconst 1, 1) := by decide +kernel
theorem dL_law_720 : decode cL_law 720 = .ok (.iadd, 1) := by decide +kernel
theorem dL_law_721 : decode cL_law 721 = .ok (.iaload, 1) := by decide +kernel
theorem dL_law_722 : decode cL_law 722 = .ok (.aload_n 0, 1) := by decide +kernel
theorem dL_law_723 : decode cL_law 723 = .ok (.iload_n 3, 1) := by decide +kernel
theorem dL_law_724 : decode cL_law 724 = .ok (.iconst 2, 1) := by decide +kernel
theorem dL_law_725 : decode cL_law 725 = .ok (.iadd, 1) := by decide +kernel
theorem dL_law_726 : decode cL_law 726 = .ok (.iaload, 1) := by decide +kernel
theorem dL_law_727 : decode cL_law 727 = .ok (.invokevirtual 101, 3) := by decide +kernel
theorem dL_law_730 : decode cL_law 730 = .ok (.if_icmp .eq 179, 3) := by decide +kernel
theorem dL_law_733 : decode cL_law 733 = .ok (.iconst 0, 1) := by decide +kernel
theorem dL_law_734 : decode cL_law 734 = .ok (.ireturn, 1) := by decide +kernel
theorem dL_law_735 : decode cL_law 735 = .ok (.aload_n 1, 1) := by decide +kernel
theorem dL_law_736 : decode cL_law 736 = .ok (.aload_n 0, 1) := by decide +kernel
theorem dL_law_737 : decode cL_law 737 = .ok (.iload_n 3, 1) := by decide +kernel
theorem dL_law_738 : decode cL_law 738 = .ok (.iconst 1, 1) := by decide +kernel
theorem dL_law_739 : decode cL_law 739 = .ok (.iadd, 1) := by decide +kernel
theorem dL_law_740 : decode cL_law 740 = .ok (.iaload, 1) := by decide +kernel
theorem dL_law_741 : decode cL_law 741 = .ok (.aload_n 0, 1) := by decide +kernel
theorem dL_law_742 : decode cL_law 742 = .ok (.iload_n 3, 1) := by decide +kernel
theorem dL_law_743 : decode cL_law 743 = .ok (.iconst 2, 1) := by decide +kernel
theorem dL_law_744 : decode cL_law 744 = .ok (.iadd, 1) := by decide +kernel
theorem dL_law_745 : decode cL_law 745 = .ok (.iaload, 1) := by decide +kernel
theorem dL_law_746 : decode cL_law 746 = .ok (.invokevirtual 102, 3) := by decide +kernel
theorem dL_law_749 : decode cL_law 749 = .ok (.aload_n 2, 1) := by decide +kernel
theorem dL_law_750 : decode cL_law 750 = .ok (.aload_n 0, 1) := by decide +kernel
theorem dL_law_751 : decode cL_law 751 = .ok (.iload_n 3, 1) := by decide +kernel
theorem dL_law_752 : decode cL_law 752 = .ok (.iconst 1, 1) := by decide +kernel
theorem dL_law_753 : decode cL_law 753 = .ok (.iadd, 1) := by decide +kernel
theorem dL_law_754 : decode cL_law 754 = .ok (.iaload, 1) := by decide +kernel
theorem dL_law_755 : decode cL_law 755 = .ok (.aload_n 0, 1) := by decide +kernel
theorem dL_law_756 : decode cL_law 756 = .ok (.iload_n 3, 1) := by decide +kernel
theorem dL_law_757 : decode cL_law 757 = .ok (.iconst 2, 1) := by decide +kernel
theorem dL_law_758 : decode cL_law 758 = .ok (.iadd, 1) := by decide +kernel
theorem dL_law_759 : decode cL_law 759 = .ok (.iaload, 1) := by decide +kernel
theorem dL_law_760 : decode cL_law 760 = .ok (.invokevirtual 105, 3) := by decide +kernel
theorem dL_law_763 : decode cL_law 763 = .ok (.if_icmp .eq 146, 3) := by decide +kernel
theorem dL_law_766 : decode cL_law 766 = .ok (.iconst 0, 1) := by decide +kernel
theorem dL_law_767 : decode cL_law 767 = .ok (.ireturn, 1) := by decide +kernel
theorem dL_law_768 : decode cL_law 768 = .ok (.aload_n 1, 1) := by decide +kernel
theorem dL_law_769 : decode cL_law 769 = .ok (.aload_n 0, 1) := by decide +kernel
theorem dL_law_770 : decode cL_law 770 = .ok (.iload_n 3, 1) := by decide +kernel
theorem dL_law_771 : decode cL_law 771 = .ok (.iconst 1, 1) := by decide +kernel
theorem dL_law_772 : decode cL_law 772 = .ok (.iadd, 1) := by decide +kernel
theorem dL_law_773 : decode cL_law 773 = .ok (.iaload, 1) := by decide +kernel
theorem dL_law_774 : decode cL_law 774 = .ok (.invokevirtual 106, 3) := by decide +kernel
theorem dL_law_777 : decode cL_law 777 = .ok (.aload_n 2, 1) := by decide +kernel
theorem dL_law_778 : decode cL_law 778 = .ok (.aload_n 0, 1) := by decide +kernel
theorem dL_law_779 : decode cL_law 779 = .ok (.iload_n 3, 1) := by decide +kernel
theorem dL_law_780 : decode cL_law 780 = .ok (.iconst 1, 1) := by decide +kernel
theorem dL_law_781 : decode cL_law 781 = .ok (.iadd, 1) := by decide +kernel
theorem dL_law_782 : decode cL_law 782 = .ok (.iaload, 1) := by decide +kernel
theorem dL_law_783 : decode cL_law 783 = .ok (.invokevirtual 109, 3) := by decide +kernel
theorem dL_law_786 : decode cL_law 786 = .ok (.if_icmp .eq 123, 3) := by decide +kernel
theorem dL_law_789 : decode cL_law 789 = .ok (.iconst 0, 1) := by decide +kernel
theorem dL_law_790 : decode cL_law 790 = .ok (.ireturn, 1) := by decide +kernel
theorem dL_law_791 : decode cL_law 791 = .ok (.aload_n 1, 1) := by decide +kernel
theorem dL_law_792 : decode cL_law 792 = .ok (.aload_n 0, 1) := by decide +kernel
theorem dL_law_793 : decode cL_law 793 = .ok (.iload_n 3, 1) := by decide +kernel
theorem dL_law_794 : decode cL_law 794 = .ok (.iconst 1, 1) := by decide +kernel
theorem dL_law_795 : decode cL_law 795 = .ok (.iadd, 1) := by decide +kernel
theorem dL_law_796 : decode cL_law 796 = .ok (.iaload, 1) := by decide +kernel
theorem dL_law_797 : decode cL_law 797 = .ok (.invokevirtual 110, 3) := by decide +kernel
theorem dL_law_800 : decode cL_law 800 = .ok (.aload_n 2, 1) := by decide +kernel
theorem dL_law_801 : decode cL_law 801 = .ok (.aload_n 0, 1) := by decide +kernel
theorem dL_law_802 : decode cL_law 802 = .ok (.iload_n 3, 1) := by decide +kernel
theorem dL_law_803 : decode cL_law 803 = .ok (.iconst 1, 1) := by decide +kernel
theorem dL_law_804 : decode cL_law 804 = .ok (.iadd, 1) := by decide +kernel
theorem dL_law_805 : decode cL_law 805 = .ok (.iaload, 1) := by decide +kernel
theorem dL_law_806 : decode cL_law 806 = .ok (.invokevirtual 113, 3) := by decide +kernel
theorem dL_law_809 : decode cL_law 809 = .ok (.if_icmp .eq 100, 3) := by decide +kernel
theorem dL_law_812 : decode cL_law 812 = .ok (.iconst 0, 1) := by decide +kernel
theorem dL_law_813 : decode cL_law 813 = .ok (.ireturn, 1) := by decide +kernel
theorem dL_law_814 : decode cL_law 814 = .ok (.aload_n 1, 1) := by decide +kernel
theorem dL_law_815 : decode cL_law 815 = .ok (.invokevirtual 114, 3) := by decide +kernel
theorem dL_law_818 : decode cL_law 818 = .ok (.aload_n 2, 1) := by decide +kernel
theorem dL_law_819 : decode cL_law 819 = .ok (.invokevirtual 117, 3) := by decide +kernel
theorem dL_law_822 : decode cL_law 822 = .ok (.if_icmp .eq 87, 3) := by decide +kernel
theorem dL_law_825 : decode cL_law 825 = .ok (.iconst 0, 1) := by decide +kernel
theorem dL_law_826 : decode cL_law 826 = .ok (.ireturn, 1) := by decide +kernel
theorem dL_law_827 : decode cL_law 827 = .ok (.aload_n 1, 1) := by decide +kernel
theorem dL_law_828 : decode cL_law 828 = .ok (.invokevirtual 118, 3) := by decide +kernel
theorem dL_law_831 : decode cL_law 831 = .ok (.aload_n 2, 1) := by decide +kernel
theorem dL_law_832 : decode cL_law 832 = .ok (.invokevirtual 121, 3) := by decide +kernel
theorem dL_law_835 : decode cL_law 835 = .ok (.if_icmp .eq 74, 3) := by decide +kernel
theorem dL_law_838 : decode cL_law 838 = .ok (.iconst 0, 1) := by decide +kernel
theorem dL_law_839 : decode cL_law 839 = .ok (.ireturn, 1) := by decide +kernel
theorem dL_law_840 : decode cL_law 840 = .ok (.aload_n 1, 1) := by decide +kernel
theorem dL_law_841 : decode cL_law 841 = .ok (.aload_n 0, 1) := by decide +kernel
theorem dL_law_842 : decode cL_law 842 = .ok (.iload_n 3, 1) := by decide +kernel
theorem dL_law_843 : decode cL_law 843 = .ok (.iconst 1, 1) := by decide +kernel
theorem dL_law_844 : decode cL_law 844 = .ok (.iadd, 1) := by decide +kernel
theorem dL_law_845 : decode cL_law 845 = .ok (.iaload, 1) := by decide +kernel
theorem dL_law_846 : decode cL_law 846 = .ok (.invokevirtual 122, 3) := by decide +kernel
theorem dL_law_849 : decode cL_law 849 = .ok (.aload_n 2, 1) := by decide +kernel
theorem dL_law_850 : decode cL_law 850 = .ok (.aload_n 0, 1) := by decide +kernel
theorem dL_law_851 : decode cL_law 851 = .ok (.iload_n 3, 1) := by decide +kernel
theorem dL_law_852 : decode cL_law 852 = .ok (.iconst 1, 1) := by decide +kernel
theorem dL_law_853 : decode cL_law 853 = .ok (.iadd, 1) := by decide +kernel
theorem dL_law_854 : decode cL_law 854 = .ok (.iaload, 1) := by decide +kernel
theorem dL_law_855 : decode cL_law 855 = .ok (.invokevirtual 125, 3) := by decide +kernel
theorem dL_law_858 : decode cL_law 858 = .ok (.if_icmp .eq 51, 3) := by decide +kernel
theorem dL_law_861 : decode cL_law 861 = .ok (.iconst 0, 1) := by decide +kernel
theorem dL_law_862 : decode cL_law 862 = .ok (.ireturn, 1) := by decide +kernel
theorem dL_law_863 : decode cL_law 863 = .ok (.aload_n 1, 1) := by decide +kernel
theorem dL_law_864 : decode cL_law 864 = .ok (.aload_n 0, 1) := by decide +kernel
theorem dL_law_865 : decode cL_law 865 = .ok (.iload_n 3, 1) := by decide +kernel
theorem dL_law_866 : decode cL_law 866 = .ok (.iconst 1, 1) := by decide +kernel
theorem dL_law_867 : decode cL_law 867 = .ok (.iadd, 1) := by decide +kernel
theorem dL_law_868 : decode cL_law 868 = .ok (.iaload, 1) := by decide +kernel
theorem dL_law_869 : decode cL_law 869 = .ok (.invokevirtual 126, 3) := by decide +kernel
theorem dL_law_872 : decode cL_law 872 = .ok (.aload_n 2, 1) := by decide +kernel
theorem dL_law_873 : decode cL_law 873 = .ok (.aload_n 0, 1) := by decide +kernel
theorem dL_law_874 : decode cL_law 874 = .ok (.iload_n 3, 1) := by decide +kernel
theorem dL_law_875 : decode cL_law 875 = .ok (.iconst 1, 1) := by decide +kernel
theorem dL_law_876 : decode cL_law 876 = .ok (.iadd, 1) := by decide +kernel
theorem dL_law_877 : decode cL_law 877 = .ok (.iaload, 1) := by decide +kernel
theorem dL_law_878 : decode cL_law 878 = .ok (.invokevirtual 129, 3) := by decide +kernel
theorem dL_law_881 : decode cL_law 881 = .ok (.if_icmp .eq 28, 3) := by decide +kernel
theorem dL_law_884 : decode cL_law 884 = .ok (.iconst 0, 1) := by decide +kernel
theorem dL_law_885 : decode cL_law 885 = .ok (.ireturn, 1) := by decide +kernel
theorem dL_law_886 : decode cL_law 886 = .ok (.aload_n 1, 1) := by decide +kernel
theorem dL_law_887 : decode cL_law 887 = .ok (.aload_n 0, 1) := by decide +kernel
theorem dL_law_888 : decode cL_law 888 = .ok (.iload_n 3, 1) := by decide +kernel
theorem dL_law_889 : decode cL_law 889 = .ok (.iconst 1, 1) := by decide +kernel
theorem dL_law_890 : decode cL_law 890 = .ok (.iadd, 1) := by decide +kernel
theorem dL_law_891 : decode cL_law 891 = .ok (.iaload, 1) := by decide +kernel
theorem dL_law_892 : decode cL_law 892 = .ok (.invokevirtual 130, 3) := by decide +kernel
theorem dL_law_895 : decode cL_law 895 = .ok (.aload_n 2, 1) := by decide +kernel
theorem dL_law_896 : decode cL_law 896 = .ok (.aload_n 0, 1) := by decide +kernel
theorem dL_law_897 : decode cL_law 897 = .ok (.iload_n 3, 1) := by decide +kernel
theorem dL_law_898 : decode cL_law 898 = .ok (.iconst 1, 1) := by decide +kernel
theorem dL_law_899 : decode cL_law 899 = .ok (.iadd, 1) := by decide +kernel
theorem dL_law_900 : decode cL_law 900 = .ok (.iaload, 1) := by decide +kernel
theorem dL_law_901 : decode cL_law 901 = .ok (.invokevirtual 133, 3) := by decide +kernel
theorem dL_law_904 : decode cL_law 904 = .ok (.if_icmp .eq 5, 3) := by decide +kernel
theorem dL_law_907 : decode cL_law 907 = .ok (.iconst 0, 1) := by decide +kernel
theorem dL_law_908 : decode cL_law 908 = .ok (.ireturn, 1) := by decide +kernel
theorem dL_law_909 : decode cL_law 909 = .ok (.iinc 3 4, 3) := by decide +kernel
theorem dL_law_912 : decode cL_law 912 = .ok (.goto (-894), 3) := by decide +kernel
theorem dL_law_915 : decode cL_law 915 = .ok (.iconst 1, 1) := by decide +kernel
theorem dL_law_916 : decode cL_law 916 = .ok (.ireturn, 1) := by decide +kernel
end
section
/-! the tables' words that may be handed on, and each word that the rows need, by its place -/
def T0 : List Cond := lw_tbl.filter goodWord
theorem T0_in (i : Nat) {w : Cond} (h : lw_tbl[i]? = some w) (hg : goodWord w = true) : w ∈ T0 := List.mem_filter.mpr ⟨List.mem_of_getElem? h, hg⟩
theorem T0_good {w : Cond} (h : w ∈ T0) : (w.onTables && w.keeps) = true ∨ ∃ ty, w = .arrayClass ty := good_of_word (List.mem_filter.mp h).2
theorem T0_lw {w : Cond} (h : w ∈ T0) : w ∈ lw_tbl := (List.mem_filter.mp h).1
theorem wm_0 : (.selects RX5 yX5_cellOf yX5_cellOf : Cond) ∈ T0 := T0_in 0 (by decide +kernel) (by decide +kernel)
theorem wm_1 : (.selects RX3 yX3_skipBlanks yX3_skipBlanks : Cond) ∈ T0 := T0_in 1 (by decide +kernel) (by decide +kernel)
theorem wm_2 : (.selects RX3 yX3_letter yX3_letter : Cond) ∈ T0 := T0_in 2 (by decide +kernel) (by decide +kernel)
theorem wm_3 : (.selects RX3 yX3_readClause yX3_readClause : Cond) ∈ T0 := T0_in 3 (by decide +kernel) (by decide +kernel)
theorem wm_4 : (.selects RX3 yX3_refuse yX3_refuse : Cond) ∈ T0 := T0_in 4 (by decide +kernel) (by decide +kernel)
theorem wm_5 : (.selects RX3 yX3_clausesOf yX3_clausesOf : Cond) ∈ T0 := T0_in 5 (by decide +kernel) (by decide +kernel)
theorem wm_6 : (.selects RX3 yX3_readNumber yX3_readNumber : Cond) ∈ T0 := T0_in 6 (by decide +kernel) (by decide +kernel)
theorem wm_7 : (.selects RX3 yX3_readEnd yX3_readEnd : Cond) ∈ T0 := T0_in 7 (by decide +kernel) (by decide +kernel)
theorem wm_8 : (.selects RX7 yX7_whereSheIs yX7_whereSheIs : Cond) ∈ T0 := T0_in 8 (by decide +kernel) (by decide +kernel)
theorem wm_9 : (.selects RX7 yX7_cannotTry yX7_cannotTry : Cond) ∈ T0 := T0_in 9 (by decide +kernel) (by decide +kernel)
theorem wm_10 : (.selects RX7 yX7_leftBesidesPurse yX7_leftBesidesPurse : Cond) ∈ T0 := T0_in 10 (by decide +kernel) (by decide +kernel)
theorem wm_11 : (.selects RX7 yX7_shipMoney yX7_shipMoney : Cond) ∈ T0 := T0_in 11 (by decide +kernel) (by decide +kernel)
theorem wm_12 : (.selects RX7 yX7_hasYet yX7_hasYet : Cond) ∈ T0 := T0_in 12 (by decide +kernel) (by decide +kernel)
theorem wm_13 : (.selects RX4 yX4_countFrom yX4_countFrom : Cond) ∈ T0 := T0_in 13 (by decide +kernel) (by decide +kernel)
theorem wm_14 : (.selects RX7 yX7_isInPort yX7_isInPort : Cond) ∈ T0 := T0_in 14 (by decide +kernel) (by decide +kernel)
theorem wm_15 : (.selects RX7 yX7_remember yX7_remember : Cond) ∈ T0 := T0_in 15 (by decide +kernel) (by decide +kernel)
theorem wm_16 : (.selects RX1 yX1_slotOf yX1_slotOf : Cond) ∈ T0 := T0_in 16 (by decide +kernel) (by decide +kernel)
theorem wm_17 : (.selects RX7 yX7_costHere yX7_costHere : Cond) ∈ T0 := T0_in 17 (by decide +kernel) (by decide +kernel)
theorem wm_18 : (.selects RX7 yX7_drawOfHundred yX7_drawOfHundred : Cond) ∈ T0 := T0_in 18 (by decide +kernel) (by decide +kernel)
theorem wm_19 : (.selects RX7 yX7_paidNow yX7_paidNow : Cond) ∈ T0 := T0_in 19 (by decide +kernel) (by decide +kernel)
theorem wm_20 : (.selects RX2 yX2_tryFrom yX2_tryFrom : Cond) ∈ T0 := T0_in 20 (by decide +kernel) (by decide +kernel)
theorem wm_21 : (.selects RX2 yX2_tryPoints yX2_tryPoints : Cond) ∈ T0 := T0_in 21 (by decide +kernel) (by decide +kernel)
theorem wm_22 : (.selects RX7 yX7_cheapestLender yX7_cheapestLender : Cond) ∈ T0 := T0_in 22 (by decide +kernel) (by decide +kernel)
theorem wm_23 : (.selects RX7 yX7_leastWorthFor yX7_leastWorthFor : Cond) ∈ T0 := T0_in 23 (by decide +kernel) (by decide +kernel)
theorem wm_24 : (.selects RX7 yX7_canBeSo yX7_canBeSo : Cond) ∈ T0 := T0_in 24 (by decide +kernel) (by decide +kernel)
theorem wm_25 : (.selects RX7 yX7_isFreightTold yX7_isFreightTold : Cond) ∈ T0 := T0_in 25 (by decide +kernel) (by decide +kernel)
theorem wm_26 : (.selects RX7 yX7_worthJustFor yX7_worthJustFor : Cond) ∈ T0 := T0_in 26 (by decide +kernel) (by decide +kernel)
theorem wm_27 : (.selects RX7 yX7_greatestWorthFor yX7_greatestWorthFor : Cond) ∈ T0 := T0_in 27 (by decide +kernel) (by decide +kernel)
theorem wm_28 : (.selects RX7 yX7_imageOf yX7_imageOf : Cond) ∈ T0 := T0_in 28 (by decide +kernel) (by decide +kernel)
theorem wm_29 : (.selects RX8 yX8_here yX8_here : Cond) ∈ T0 := T0_in 29 (by decide +kernel) (by decide +kernel)
theorem wm_30 : (.selects RX8 yX8_letterAt yX8_letterAt : Cond) ∈ T0 := T0_in 30 (by decide +kernel) (by decide +kernel)
theorem wm_31 : (.selects RX8 yX8_takesClause yX8_takesClause : Cond) ∈ T0 := T0_in 31 (by decide +kernel) (by decide +kernel)
theorem wm_32 : (.selects RX8 yX8_fails yX8_fails : Cond) ∈ T0 := T0_in 32 (by decide +kernel) (by decide +kernel)
theorem wm_33 : (.selects RX8 yX8_takesShip yX8_takesShip : Cond) ∈ T0 := T0_in 33 (by decide +kernel) (by decide +kernel)
theorem wm_34 : (.selects RX8 yX8_takesNumber yX8_takesNumber : Cond) ∈ T0 := T0_in 34 (by decide +kernel) (by decide +kernel)
theorem wm_35 : (.selects RX8 yX8_takesLeg yX8_takesLeg : Cond) ∈ T0 := T0_in 35 (by decide +kernel) (by decide +kernel)
theorem wm_36 : (.selects RX8 yX8_takesLender yX8_takesLender : Cond) ∈ T0 := T0_in 36 (by decide +kernel) (by decide +kernel)
theorem wm_37 : (.selects RX8 yX8_takes yX8_takes : Cond) ∈ T0 := T0_in 37 (by decide +kernel) (by decide +kernel)
theorem wm_38 : (.selects RX8 yX8_where yX8_where : Cond) ∈ T0 := T0_in 38 (by decide +kernel) (by decide +kernel)
theorem wm_39 : (.selects RX8 yX8_owed yX8_owed : Cond) ∈ T0 := T0_in 39 (by decide +kernel) (by decide +kernel)
theorem wm_40 : (.selects RX8 yX8_dueOf yX8_dueOf : Cond) ∈ T0 := T0_in 40 (by decide +kernel) (by decide +kernel)
theorem wm_41 : (.selects RX8 yX8_leftNow yX8_leftNow : Cond) ∈ T0 := T0_in 41 (by decide +kernel) (by decide +kernel)
theorem wm_42 : (.selects RX8 yX8_paysHome yX8_paysHome : Cond) ∈ T0 := T0_in 42 (by decide +kernel) (by decide +kernel)
theorem wm_43 : (.selects RX8 yX8_paysOf yX8_paysOf : Cond) ∈ T0 := T0_in 43 (by decide +kernel) (by decide +kernel)
theorem wm_44 : (.selects RX8 yX8_isLeg yX8_isLeg : Cond) ∈ T0 := T0_in 44 (by decide +kernel) (by decide +kernel)
theorem wm_45 : (.selects RX8 yX8_oddsOf yX8_oddsOf : Cond) ∈ T0 := T0_in 45 (by decide +kernel) (by decide +kernel)
theorem wm_46 : (.selects RX8 yX8_isLender yX8_isLender : Cond) ∈ T0 := T0_in 46 (by decide +kernel) (by decide +kernel)
theorem wm_47 : (.selects RX8 yX8_yetOf yX8_yetOf : Cond) ∈ T0 := T0_in 47 (by decide +kernel) (by decide +kernel)
theorem wm_48 : (.selects RX8 yX8_isLoan yX8_isLoan : Cond) ∈ T0 := T0_in 48 (by decide +kernel) (by decide +kernel)
theorem wm_49 : (.selects RX8 yX8_rankOf yX8_rankOf : Cond) ∈ T0 := T0_in 49 (by decide +kernel) (by decide +kernel)
theorem wm_50 : (.selects RX8 yX8_copy yX8_copy : Cond) ∈ T0 := T0_in 50 (by decide +kernel) (by decide +kernel)
theorem wm_51 : (.selects RX8 yX8_minds yX8_minds : Cond) ∈ T0 := T0_in 51 (by decide +kernel) (by decide +kernel)
theorem wm_52 : (.selects RX8 yX8_takesLoan yX8_takesLoan : Cond) ∈ T0 := T0_in 52 (by decide +kernel) (by decide +kernel)
theorem wm_53 : (.selects RX8 yX8_sails yX8_sails : Cond) ∈ T0 := T0_in 53 (by decide +kernel) (by decide +kernel)
theorem wm_54 : (.selects RX8 yX8_draw yX8_draw : Cond) ∈ T0 := T0_in 54 (by decide +kernel) (by decide +kernel)
theorem wm_55 : (.selects RX8 yX8_isGone yX8_isGone : Cond) ∈ T0 := T0_in 55 (by decide +kernel) (by decide +kernel)
theorem wm_56 : (.selects RX8 yX8_homeNow yX8_homeNow : Cond) ∈ T0 := T0_in 56 (by decide +kernel) (by decide +kernel)
theorem wm_57 : (.selects RX8 yX8_through yX8_through : Cond) ∈ T0 := T0_in 57 (by decide +kernel) (by decide +kernel)
theorem wm_58 : (.selects RX8 yX8_rateNow yX8_rateNow : Cond) ∈ T0 := T0_in 58 (by decide +kernel) (by decide +kernel)
theorem wm_59 : (.selects RX8 yX8_findPlan yX8_findPlan : Cond) ∈ T0 := T0_in 59 (by decide +kernel) (by decide +kernel)
theorem wm_60 : (.initialized RL : Cond) ∈ T0 := T0_in 60 (by decide +kernel) (by decide +kernel)
theorem wm_61 : (.initialized RX7 : Cond) ∈ T0 := T0_in 61 (by decide +kernel) (by decide +kernel)
theorem wm_62 : (.initialized RX5 : Cond) ∈ T0 := T0_in 62 (by decide +kernel) (by decide +kernel)
theorem wm_63 : (.initialized "java/lang/Math" : Cond) ∈ T0 := T0_in 63 (by decide +kernel) (by decide +kernel)
theorem wm_64 : (.initialized RX3 : Cond) ∈ T0 := T0_in 64 (by decide +kernel) (by decide +kernel)
theorem wm_65 : (.initialized RX6 : Cond) ∈ T0 := T0_in 65 (by decide +kernel) (by decide +kernel)
theorem wm_66 : (.initialized RX4 : Cond) ∈ T0 := T0_in 66 (by decide +kernel) (by decide +kernel)
theorem wm_67 : (.initialized RX1 : Cond) ∈ T0 := T0_in 67 (by decide +kernel) (by decide +kernel)
theorem wm_68 : (.initialized RX0 : Cond) ∈ T0 := T0_in 68 (by decide +kernel) (by decide +kernel)
theorem wm_69 : (.initialized RX2 : Cond) ∈ T0 := T0_in 69 (by decide +kernel) (by decide +kernel)
theorem wm_70 : (.initialized RX8 : Cond) ∈ T0 := T0_in 70 (by decide +kernel) (by decide +kernel)
theorem wm_71 : (.initialized "java/lang/System" : Cond) ∈ T0 := T0_in 71 (by decide +kernel) (by decide +kernel)
theorem wm_72 : (.classLink RL 7 RX7 : Cond) ∈ T0 := T0_in 72 (by decide +kernel) (by decide +kernel)
theorem wm_73 : (.instantiable RX7 12 : Cond) ∈ T0 := T0_in 73 (by decide +kernel) (by decide +kernel)
theorem wm_74 : (.methodLink RL 9 yX7_init : Cond) ∈ T0 := T0_in 74 (by decide +kernel) (by decide +kernel)
theorem wm_75 : (.instanceMethod yX7_init : Cond) ∈ T0 := T0_in 75 (by decide +kernel) (by decide +kernel)
theorem wm_76 : (.code yX7_init cX7_init 1 none : Cond) ∈ T0 := T0_in 76 (by decide +kernel) (by decide +kernel)
theorem wm_77 : (.methodLink RX7 1 objectInit : Cond) ∈ T0 := T0_in 77 (by decide +kernel) (by decide +kernel)
theorem wm_78 : (.instanceMethod objectInit : Cond) ∈ T0 := T0_in 78 (by decide +kernel) (by decide +kernel)
theorem wm_79 : (.code objectInit ⟨#[0xb1]⟩ 1 none : Cond) ∈ T0 := T0_in 79 (by decide +kernel) (by decide +kernel)
theorem wm_80 : (.classLink RX7 7 RX5 : Cond) ∈ T0 := T0_in 80 (by decide +kernel) (by decide +kernel)
theorem wm_81 : (.instantiable RX5 4 : Cond) ∈ T0 := T0_in 81 (by decide +kernel) (by decide +kernel)
theorem wm_82 : (.methodLink RX7 11 yX5_init : Cond) ∈ T0 := T0_in 82 (by decide +kernel) (by decide +kernel)
theorem wm_83 : (.instanceMethod yX5_init : Cond) ∈ T0 := T0_in 83 (by decide +kernel) (by decide +kernel)
theorem wm_84 : (.code yX5_init cX5_init 3 none : Cond) ∈ T0 := T0_in 84 (by decide +kernel) (by decide +kernel)
theorem wm_85 : (.methodLink RX5 3 objectInit : Cond) ∈ T0 := T0_in 85 (by decide +kernel) (by decide +kernel)
theorem wm_86 : (.methodLink RX5 21 Lib.Math.max.name : Cond) ∈ T0 := T0_in 86 (by decide +kernel) (by decide +kernel)
theorem wm_87 : (.static Lib.Math.max.name : Cond) ∈ T0 := T0_in 87 (by decide +kernel) (by decide +kernel)
theorem wm_88 : (.code Lib.Math.max.name Lib.Math.max.code 2 (some .int) : Cond) ∈ T0 := T0_in 88 (by decide +kernel) (by decide +kernel)
theorem wm_89 : (.fieldLink RX5 15 "BottomryLoans$Table" "width" "I" : Cond) ∈ T0 := T0_in 89 (by decide +kernel) (by decide +kernel)
theorem wm_90 : (.fieldLink RX5 18 "BottomryLoans$Table" "most" "I" : Cond) ∈ T0 := T0_in 90 (by decide +kernel) (by decide +kernel)
theorem wm_91 : (.fieldLink RX5 27 "BottomryLoans$Table" "cells" "[I" : Cond) ∈ T0 := T0_in 91 (by decide +kernel) (by decide +kernel)
theorem wm_92 : (.fieldLink RX5 9 "BottomryLoans$Table" "rows" "I" : Cond) ∈ T0 := T0_in 92 (by decide +kernel) (by decide +kernel)
theorem wm_102 : (.arrayClass Jvm.ClassFile.FieldType.int : Cond) ∈ T0 := T0_in 102 (by decide +kernel) (by decide +kernel)
theorem wm_103 : (.classLink RX7 18 RX3 : Cond) ∈ T0 := T0_in 103 (by decide +kernel) (by decide +kernel)
theorem wm_104 : (.instantiable RX3 5 : Cond) ∈ T0 := T0_in 104 (by decide +kernel) (by decide +kernel)
theorem wm_105 : (.methodLink RX7 20 yX3_init : Cond) ∈ T0 := T0_in 105 (by decide +kernel) (by decide +kernel)
theorem wm_106 : (.instanceMethod yX3_init : Cond) ∈ T0 := T0_in 106 (by decide +kernel) (by decide +kernel)
theorem wm_107 : (.code yX3_init cX3_init 2 none : Cond) ∈ T0 := T0_in 107 (by decide +kernel) (by decide +kernel)
theorem wm_108 : (.methodLink RX3 3 objectInit : Cond) ∈ T0 := T0_in 108 (by decide +kernel) (by decide +kernel)
theorem wm_109 : (.classLink RX3 9 RX6 : Cond) ∈ T0 := T0_in 109 (by decide +kernel) (by decide +kernel)
theorem wm_110 : (.instantiable RX6 3 : Cond) ∈ T0 := T0_in 110 (by decide +kernel) (by decide +kernel)
theorem wn_111 : (.methodLinkNest RX3 11 yX6_init RX7 : Cond) ∈ lw_tbl := List.mem_of_getElem? (i := 111) (by decide +kernel)
theorem wm_112 : (.instanceMethod yX6_init : Cond) ∈ T0 := T0_in 112 (by decide +kernel) (by decide +kernel)
theorem wm_113 : (.code yX6_init cX6_init 1 none : Cond) ∈ T0 := T0_in 113 (by decide +kernel) (by decide +kernel)
theorem wm_114 : (.methodLink RX6 3 objectInit : Cond) ∈ T0 := T0_in 114 (by decide +kernel) (by decide +kernel)
theorem wm_115 : (.classLink RX6 9 RX5 : Cond) ∈ T0 := T0_in 115 (by decide +kernel) (by decide +kernel)
theorem wm_116 : (.methodLink RX6 11 yX5_init : Cond) ∈ T0 := T0_in 116 (by decide +kernel) (by decide +kernel)
theorem wm_117 : (.fieldLink RX6 14 "BottomryLoans$Voyage" "ship" "LBottomryLoans$Table;" : Cond) ∈ T0 := T0_in 117 (by decide +kernel) (by decide +kernel)
theorem wm_118 : (.fieldLink RX4 37 "BottomryLoans$Voyage" "ship" "LBottomryLoans$Table;" : Cond) ∈ T0 := T0_in 118 (by decide +kernel) (by decide +kernel)
theorem wm_119 : (.fieldLink RX7 124 "BottomryLoans$Voyage" "ship" "LBottomryLoans$Table;" : Cond) ∈ T0 := T0_in 119 (by decide +kernel) (by decide +kernel)
theorem wm_120 : (.fieldLink RX3 58 "BottomryLoans$Voyage" "ship" "LBottomryLoans$Table;" : Cond) ∈ T0 := T0_in 120 (by decide +kernel) (by decide +kernel)
theorem wm_121 : (.fieldLink RX6 20 "BottomryLoans$Voyage" "legs" "LBottomryLoans$Table;" : Cond) ∈ T0 := T0_in 121 (by decide +kernel) (by decide +kernel)
theorem wm_122 : (.fieldLink RX7 121 "BottomryLoans$Voyage" "legs" "LBottomryLoans$Table;" : Cond) ∈ T0 := T0_in 122 (by decide +kernel) (by decide +kernel)
theorem wm_123 : (.fieldLink RX2 60 "BottomryLoans$Voyage" "legs" "LBottomryLoans$Table;" : Cond) ∈ T0 := T0_in 123 (by decide +kernel) (by decide +kernel)
theorem wm_124 : (.fieldLink RX3 89 "BottomryLoans$Voyage" "legs" "LBottomryLoans$Table;" : Cond) ∈ T0 := T0_in 124 (by decide +kernel) (by decide +kernel)
theorem wm_125 : (.fieldLink RX6 23 "BottomryLoans$Voyage" "lenders" "LBottomryLoans$Table;" : Cond) ∈ T0 := T0_in 125 (by decide +kernel) (by decide +kernel)
theorem wm_126 : (.fieldLink RX7 137 "BottomryLoans$Voyage" "lenders" "LBottomryLoans$Table;" : Cond) ∈ T0 := T0_in 126 (by decide +kernel) (by decide +kernel)
theorem wm_127 : (.fieldLink RX3 92 "BottomryLoans$Voyage" "lenders" "LBottomryLoans$Table;" : Cond) ∈ T0 := T0_in 127 (by decide +kernel) (by decide +kernel)
theorem wm_135 : (.fieldLink RX3 28 "BottomryLoans$Reader" "text" "LBottomryLoans$Table;" : Cond) ∈ T0 := T0_in 135 (by decide +kernel) (by decide +kernel)
theorem wm_136 : (.fieldLink RX3 12 "BottomryLoans$Reader" "draft" "LBottomryLoans$Voyage;" : Cond) ∈ T0 := T0_in 136 (by decide +kernel) (by decide +kernel)
theorem wm_137 : (.fieldLink RX3 18 "BottomryLoans$Reader" "at" "I" : Cond) ∈ T0 := T0_in 137 (by decide +kernel) (by decide +kernel)
theorem wm_138 : (.fieldLink RX3 22 "BottomryLoans$Reader" "faultKind" "I" : Cond) ∈ T0 := T0_in 138 (by decide +kernel) (by decide +kernel)
theorem wm_139 : (.fieldLink RX3 25 "BottomryLoans$Reader" "faultAt" "I" : Cond) ∈ T0 := T0_in 139 (by decide +kernel) (by decide +kernel)
theorem wm_151 : (.classLink RX7 27 RX6 : Cond) ∈ T0 := T0_in 151 (by decide +kernel) (by decide +kernel)
theorem wn_152 : (.methodLinkNest RX7 29 yX6_init RX7 : Cond) ∈ lw_tbl := List.mem_of_getElem? (i := 152) (by decide +kernel)
theorem wm_153 : (.classLink RX7 34 RX4 : Cond) ∈ T0 := T0_in 153 (by decide +kernel) (by decide +kernel)
theorem wm_154 : (.instantiable RX4 5 : Cond) ∈ T0 := T0_in 154 (by decide +kernel) (by decide +kernel)
theorem wn_155 : (.methodLinkNest RX7 36 yX4_init RX7 : Cond) ∈ lw_tbl := List.mem_of_getElem? (i := 155) (by decide +kernel)
theorem wm_156 : (.instanceMethod yX4_init : Cond) ∈ T0 := T0_in 156 (by decide +kernel) (by decide +kernel)
theorem wm_157 : (.code yX4_init cX4_init 1 none : Cond) ∈ T0 := T0_in 157 (by decide +kernel) (by decide +kernel)
theorem wm_158 : (.methodLink RX4 3 objectInit : Cond) ∈ T0 := T0_in 158 (by decide +kernel) (by decide +kernel)
theorem wm_159 : (.classLink RX4 9 RX5 : Cond) ∈ T0 := T0_in 159 (by decide +kernel) (by decide +kernel)
theorem wm_160 : (.methodLink RX4 11 yX5_init : Cond) ∈ T0 := T0_in 160 (by decide +kernel) (by decide +kernel)
theorem wm_161 : (.fieldLink RX4 14 "BottomryLoans$She" "loans" "LBottomryLoans$Table;" : Cond) ∈ T0 := T0_in 161 (by decide +kernel) (by decide +kernel)
theorem wm_162 : (.fieldLink RX7 140 "BottomryLoans$She" "loans" "LBottomryLoans$Table;" : Cond) ∈ T0 := T0_in 162 (by decide +kernel) (by decide +kernel)
theorem wm_163 : (.fieldLink RX4 20 "BottomryLoans$She" "state" "I" : Cond) ∈ T0 := T0_in 163 (by decide +kernel) (by decide +kernel)
theorem wm_164 : (.fieldLink RX7 131 "BottomryLoans$She" "state" "I" : Cond) ∈ T0 := T0_in 164 (by decide +kernel) (by decide +kernel)
theorem wm_165 : (.fieldLink RX2 73 "BottomryLoans$She" "state" "I" : Cond) ∈ T0 := T0_in 165 (by decide +kernel) (by decide +kernel)
theorem wm_166 : (.fieldLink RX4 24 "BottomryLoans$She" "purse" "I" : Cond) ∈ T0 := T0_in 166 (by decide +kernel) (by decide +kernel)
theorem wm_167 : (.fieldLink RX7 134 "BottomryLoans$She" "purse" "I" : Cond) ∈ T0 := T0_in 167 (by decide +kernel) (by decide +kernel)
theorem wm_168 : (.fieldLink RX2 76 "BottomryLoans$She" "purse" "I" : Cond) ∈ T0 := T0_in 168 (by decide +kernel) (by decide +kernel)
theorem wm_169 : (.fieldLink RX4 27 "BottomryLoans$She" "sailed" "I" : Cond) ∈ T0 := T0_in 169 (by decide +kernel) (by decide +kernel)
theorem wm_170 : (.fieldLink RX7 143 "BottomryLoans$She" "sailed" "I" : Cond) ∈ T0 := T0_in 170 (by decide +kernel) (by decide +kernel)
theorem wm_171 : (.fieldLink RX2 52 "BottomryLoans$She" "sailed" "I" : Cond) ∈ T0 := T0_in 171 (by decide +kernel) (by decide +kernel)
theorem wm_172 : (.fieldLink RX4 30 "BottomryLoans$She" "lost" "Z" : Cond) ∈ T0 := T0_in 172 (by decide +kernel) (by decide +kernel)
theorem wm_173 : (.fieldLink RX7 267 "BottomryLoans$She" "lost" "Z" : Cond) ∈ T0 := T0_in 173 (by decide +kernel) (by decide +kernel)
theorem wm_185 : (.classLink RX7 41 RX1 : Cond) ∈ T0 := T0_in 185 (by decide +kernel) (by decide +kernel)
theorem wm_186 : (.instantiable RX1 3 : Cond) ∈ T0 := T0_in 186 (by decide +kernel) (by decide +kernel)
theorem wm_187 : (.methodLink RX7 43 yX1_init : Cond) ∈ T0 := T0_in 187 (by decide +kernel) (by decide +kernel)
theorem wm_188 : (.instanceMethod yX1_init : Cond) ∈ T0 := T0_in 188 (by decide +kernel) (by decide +kernel)
theorem wm_189 : (.code yX1_init cX1_init 2 none : Cond) ∈ T0 := T0_in 189 (by decide +kernel) (by decide +kernel)
theorem wm_190 : (.methodLink RX1 3 objectInit : Cond) ∈ T0 := T0_in 190 (by decide +kernel) (by decide +kernel)
theorem wm_191 : (.classLink RX1 9 RX4 : Cond) ∈ T0 := T0_in 191 (by decide +kernel) (by decide +kernel)
theorem wn_192 : (.arrayOver (Jvm.ClassFile.FieldType.object "BottomryLoans$She") : Cond) ∈ lw_tbl := List.mem_of_getElem? (i := 192) (by decide +kernel)
theorem wn_193 : (.methodLinkNest RX1 24 yX4_init RX7 : Cond) ∈ lw_tbl := List.mem_of_getElem? (i := 193) (by decide +kernel)
theorem wm_194 : (.fieldLink RX1 11 "BottomryLoans$Past" "ring" "[LBottomryLoans$She;" : Cond) ∈ T0 := T0_in 194 (by decide +kernel) (by decide +kernel)
theorem wm_195 : (.fieldLink RX1 17 "BottomryLoans$Past" "next" "I" : Cond) ∈ T0 := T0_in 195 (by decide +kernel) (by decide +kernel)
theorem wm_196 : (.fieldLink RX1 21 "BottomryLoans$Past" "acts" "I" : Cond) ∈ T0 := T0_in 196 (by decide +kernel) (by decide +kernel)
theorem wm_204 : (.classLink RX7 48 RX0 : Cond) ∈ T0 := T0_in 204 (by decide +kernel) (by decide +kernel)
theorem wm_205 : (.instantiable RX0 3 : Cond) ∈ T0 := T0_in 205 (by decide +kernel) (by decide +kernel)
theorem wn_206 : (.methodLinkNest RX7 50 yX0_init RX7 : Cond) ∈ lw_tbl := List.mem_of_getElem? (i := 206) (by decide +kernel)
theorem wm_207 : (.instanceMethod yX0_init : Cond) ∈ T0 := T0_in 207 (by decide +kernel) (by decide +kernel)
theorem wm_208 : (.code yX0_init cX0_init 1 none : Cond) ∈ T0 := T0_in 208 (by decide +kernel) (by decide +kernel)
theorem wm_209 : (.methodLink RX0 1 objectInit : Cond) ∈ T0 := T0_in 209 (by decide +kernel) (by decide +kernel)
theorem wm_210 : (.classLink RX0 7 RX4 : Cond) ∈ T0 := T0_in 210 (by decide +kernel) (by decide +kernel)
theorem wn_211 : (.methodLinkNest RX0 9 yX4_init RX7 : Cond) ∈ lw_tbl := List.mem_of_getElem? (i := 211) (by decide +kernel)
theorem wm_212 : (.fieldLink RX0 10 "BottomryLoans$Image" "ship" "LBottomryLoans$She;" : Cond) ∈ T0 := T0_in 212 (by decide +kernel) (by decide +kernel)
theorem wm_213 : (.fieldLink RX7 260 "BottomryLoans$Image" "ship" "LBottomryLoans$She;" : Cond) ∈ T0 := T0_in 213 (by decide +kernel) (by decide +kernel)
theorem wm_214 : (.fieldLink RX0 16 "BottomryLoans$Image" "seedThen" "I" : Cond) ∈ T0 := T0_in 214 (by decide +kernel) (by decide +kernel)
theorem wm_215 : (.fieldLink RX7 264 "BottomryLoans$Image" "seedThen" "I" : Cond) ∈ T0 := T0_in 215 (by decide +kernel) (by decide +kernel)
theorem wm_216 : (.fieldLink RX0 20 "BottomryLoans$Image" "kept" "Z" : Cond) ∈ T0 := T0_in 216 (by decide +kernel) (by decide +kernel)
theorem wm_217 : (.fieldLink RX7 113 "BottomryLoans$Image" "kept" "Z" : Cond) ∈ T0 := T0_in 217 (by decide +kernel) (by decide +kernel)
theorem wm_225 : (.classLink RX7 58 RX2 : Cond) ∈ T0 := T0_in 225 (by decide +kernel) (by decide +kernel)
theorem wm_226 : (.instantiable RX2 7 : Cond) ∈ T0 := T0_in 226 (by decide +kernel) (by decide +kernel)
theorem wm_227 : (.methodLink RX7 60 yX2_init : Cond) ∈ T0 := T0_in 227 (by decide +kernel) (by decide +kernel)
theorem wm_228 : (.instanceMethod yX2_init : Cond) ∈ T0 := T0_in 228 (by decide +kernel) (by decide +kernel)
theorem wm_229 : (.code yX2_init cX2_init 2 none : Cond) ∈ T0 := T0_in 229 (by decide +kernel) (by decide +kernel)
theorem wm_230 : (.methodLink RX2 3 objectInit : Cond) ∈ T0 := T0_in 230 (by decide +kernel) (by decide +kernel)
theorem wm_231 : (.classLink RX2 9 RX5 : Cond) ∈ T0 := T0_in 231 (by decide +kernel) (by decide +kernel)
theorem wm_232 : (.methodLink RX2 11 yX5_init : Cond) ∈ T0 := T0_in 232 (by decide +kernel) (by decide +kernel)
theorem wm_233 : (.constantLong RX2 30 (-1) : Cond) ∈ T0 := T0_in 233 (by decide +kernel) (by decide +kernel)
theorem wm_234 : (.fieldLink RX2 40 "BottomryLoans$Planner" "voyage" "LBottomryLoans$Voyage;" : Cond) ∈ T0 := T0_in 234 (by decide +kernel) (by decide +kernel)
theorem wm_235 : (.fieldLink RX2 14 "BottomryLoans$Planner" "tried" "LBottomryLoans$Table;" : Cond) ∈ T0 := T0_in 235 (by decide +kernel) (by decide +kernel)
theorem wm_236 : (.fieldLink RX2 20 "BottomryLoans$Planner" "best" "LBottomryLoans$Table;" : Cond) ∈ T0 := T0_in 236 (by decide +kernel) (by decide +kernel)
theorem wm_237 : (.fieldLink RX2 23 "BottomryLoans$Planner" "firstLeg" "I" : Cond) ∈ T0 := T0_in 237 (by decide +kernel) (by decide +kernel)
theorem wm_238 : (.fieldLink RX2 27 "BottomryLoans$Planner" "leftBesidesPurse" "I" : Cond) ∈ T0 := T0_in 238 (by decide +kernel) (by decide +kernel)
theorem wm_239 : (.fieldLink RX2 32 "BottomryLoans$Planner" "most" "J" : Cond) ∈ T0 := T0_in 239 (by decide +kernel) (by decide +kernel)
theorem wm_240 : (.fieldLink RX2 36 "BottomryLoans$Planner" "done" "Z" : Cond) ∈ T0 := T0_in 240 (by decide +kernel) (by decide +kernel)
theorem wm_256 : (.fieldLink RX7 14 "BottomryLoans" "text" "LBottomryLoans$Table;" : Cond) ∈ T0 := T0_in 256 (by decide +kernel) (by decide +kernel)
theorem wm_257 : (.fieldLink RX7 23 "BottomryLoans" "reader" "LBottomryLoans$Reader;" : Cond) ∈ T0 := T0_in 257 (by decide +kernel) (by decide +kernel)
theorem wm_258 : (.fieldLink RX7 30 "BottomryLoans" "voyage" "LBottomryLoans$Voyage;" : Cond) ∈ T0 := T0_in 258 (by decide +kernel) (by decide +kernel)
theorem wm_259 : (.fieldLink RX7 37 "BottomryLoans" "she" "LBottomryLoans$She;" : Cond) ∈ T0 := T0_in 259 (by decide +kernel) (by decide +kernel)
theorem wm_260 : (.fieldLink RX7 44 "BottomryLoans" "past" "LBottomryLoans$Past;" : Cond) ∈ T0 := T0_in 260 (by decide +kernel) (by decide +kernel)
theorem wm_261 : (.fieldLink RX7 51 "BottomryLoans" "firstImage" "LBottomryLoans$Image;" : Cond) ∈ T0 := T0_in 261 (by decide +kernel) (by decide +kernel)
theorem wm_262 : (.fieldLink RX7 55 "BottomryLoans" "secondImage" "LBottomryLoans$Image;" : Cond) ∈ T0 := T0_in 262 (by decide +kernel) (by decide +kernel)
theorem wm_263 : (.fieldLink RX7 63 "BottomryLoans" "planner" "LBottomryLoans$Planner;" : Cond) ∈ T0 := T0_in 263 (by decide +kernel) (by decide +kernel)
theorem wm_264 : (.fieldLink RX7 67 "BottomryLoans" "toldPaid" "LBottomryLoans$Table;" : Cond) ∈ T0 := T0_in 264 (by decide +kernel) (by decide +kernel)
theorem wm_265 : (.fieldLink RX7 70 "BottomryLoans" "book" "LBottomryLoans$Table;" : Cond) ∈ T0 := T0_in 265 (by decide +kernel) (by decide +kernel)
theorem wm_266 : (.fieldLink RX7 73 "BottomryLoans" "faultPlace" "I" : Cond) ∈ T0 := T0_in 266 (by decide +kernel) (by decide +kernel)
theorem wm_267 : (.fieldLink RX7 77 "BottomryLoans" "drawSeed" "I" : Cond) ∈ T0 := T0_in 267 (by decide +kernel) (by decide +kernel)
theorem wm_293 : (.methodLink RL 13 yX7_feed : Cond) ∈ T0 := T0_in 293 (by decide +kernel) (by decide +kernel)
theorem wm_294 : (.instanceMethod yX7_feed : Cond) ∈ T0 := T0_in 294 (by decide +kernel) (by decide +kernel)
theorem wm_295 : (.selects RX7 yX7_feed yX7_feed : Cond) ∈ T0 := T0_in 295 (by decide +kernel) (by decide +kernel)
theorem wm_296 : (.code yX7_feed cX7_feed 2 (some .int) : Cond) ∈ T0 := T0_in 296 (by decide +kernel) (by decide +kernel)
theorem wm_297 : (.constant RX7 80 (-1000000002) : Cond) ∈ T0 := T0_in 297 (by decide +kernel) (by decide +kernel)
theorem wm_298 : (.methodLink RX7 81 yX5_isFull : Cond) ∈ T0 := T0_in 298 (by decide +kernel) (by decide +kernel)
theorem wm_299 : (.instanceMethod yX5_isFull : Cond) ∈ T0 := T0_in 299 (by decide +kernel) (by decide +kernel)
theorem wm_300 : (.selects RX5 yX5_isFull yX5_isFull : Cond) ∈ T0 := T0_in 300 (by decide +kernel) (by decide +kernel)
theorem wm_301 : (.code yX5_isFull cX5_isFull 1 (some .boolean) : Cond) ∈ T0 := T0_in 301 (by decide +kernel) (by decide +kernel)
theorem wm_302 : (.constant RX7 85 (-1000000004) : Cond) ∈ T0 := T0_in 302 (by decide +kernel) (by decide +kernel)
theorem wm_303 : (.methodLink RX7 86 yX5_add : Cond) ∈ T0 := T0_in 303 (by decide +kernel) (by decide +kernel)
theorem wm_304 : (.instanceMethod yX5_add : Cond) ∈ T0 := T0_in 304 (by decide +kernel) (by decide +kernel)
theorem wm_305 : (.selects RX5 yX5_add yX5_add : Cond) ∈ T0 := T0_in 305 (by decide +kernel) (by decide +kernel)
theorem wm_306 : (.code yX5_add cX5_add 2 none : Cond) ∈ T0 := T0_in 306 (by decide +kernel) (by decide +kernel)
theorem wm_307 : (.methodLink RX5 38 yX5_open : Cond) ∈ T0 := T0_in 307 (by decide +kernel) (by decide +kernel)
theorem wm_308 : (.instanceMethod yX5_open : Cond) ∈ T0 := T0_in 308 (by decide +kernel) (by decide +kernel)
theorem wm_309 : (.selects RX5 yX5_open yX5_open : Cond) ∈ T0 := T0_in 309 (by decide +kernel) (by decide +kernel)
theorem wm_310 : (.code yX5_open cX5_open 1 (some .int) : Cond) ∈ T0 := T0_in 310 (by decide +kernel) (by decide +kernel)
theorem wm_311 : (.methodLink RX5 34 yX5_isFull : Cond) ∈ T0 := T0_in 311 (by decide +kernel) (by decide +kernel)
theorem wm_312 : (.methodLink RX5 42 yX5_set : Cond) ∈ T0 := T0_in 312 (by decide +kernel) (by decide +kernel)
theorem wm_313 : (.instanceMethod yX5_set : Cond) ∈ T0 := T0_in 313 (by decide +kernel) (by decide +kernel)
theorem wm_314 : (.selects RX5 yX5_set yX5_set : Cond) ∈ T0 := T0_in 314 (by decide +kernel) (by decide +kernel)
theorem wm_315 : (.code yX5_set cX5_set 5 none : Cond) ∈ T0 := T0_in 315 (by decide +kernel) (by decide +kernel)
theorem wm_316 : (.methodLink RX5 31 yX5_cellOf : Cond) ∈ T0 := T0_in 316 (by decide +kernel) (by decide +kernel)
theorem wm_318 : (.instanceMethod yX5_cellOf : Cond) ∈ T0 := T0_in 318 (by decide +kernel) (by decide +kernel)
theorem wm_319 : (.code yX5_cellOf cX5_cellOf 4 (some .int) : Cond) ∈ T0 := T0_in 319 (by decide +kernel) (by decide +kernel)
theorem wm_320 : (.methodLink RX7 90 yX5_rows : Cond) ∈ T0 := T0_in 320 (by decide +kernel) (by decide +kernel)
theorem wm_321 : (.instanceMethod yX5_rows : Cond) ∈ T0 := T0_in 321 (by decide +kernel) (by decide +kernel)
theorem wm_322 : (.selects RX5 yX5_rows yX5_rows : Cond) ∈ T0 := T0_in 322 (by decide +kernel) (by decide +kernel)
theorem wm_323 : (.code yX5_rows cX5_rows 1 (some .int) : Cond) ∈ T0 := T0_in 323 (by decide +kernel) (by decide +kernel)
theorem wm_324 : (.methodLink RL 18 yX7_voyage : Cond) ∈ T0 := T0_in 324 (by decide +kernel) (by decide +kernel)
theorem wm_325 : (.instanceMethod yX7_voyage : Cond) ∈ T0 := T0_in 325 (by decide +kernel) (by decide +kernel)
theorem wm_326 : (.selects RX7 yX7_voyage yX7_voyage : Cond) ∈ T0 := T0_in 326 (by decide +kernel) (by decide +kernel)
theorem wm_327 : (.code yX7_voyage cX7_voyage 2 (some .int) : Cond) ∈ T0 := T0_in 327 (by decide +kernel) (by decide +kernel)
theorem wm_328 : (.methodLink RX7 94 yX3_readText : Cond) ∈ T0 := T0_in 328 (by decide +kernel) (by decide +kernel)
theorem wm_329 : (.instanceMethod yX3_readText : Cond) ∈ T0 := T0_in 329 (by decide +kernel) (by decide +kernel)
theorem wm_330 : (.selects RX3 yX3_readText yX3_readText : Cond) ∈ T0 := T0_in 330 (by decide +kernel) (by decide +kernel)
theorem wm_331 : (.code yX3_readText cX3_readText 2 (some .int) : Cond) ∈ T0 := T0_in 331 (by decide +kernel) (by decide +kernel)
theorem wm_332 : (.methodLink RX3 32 yX6_clear : Cond) ∈ T0 := T0_in 332 (by decide +kernel) (by decide +kernel)
theorem wm_333 : (.instanceMethod yX6_clear : Cond) ∈ T0 := T0_in 333 (by decide +kernel) (by decide +kernel)
theorem wm_334 : (.selects RX6 yX6_clear yX6_clear : Cond) ∈ T0 := T0_in 334 (by decide +kernel) (by decide +kernel)
theorem wm_335 : (.code yX6_clear cX6_clear 1 none : Cond) ∈ T0 := T0_in 335 (by decide +kernel) (by decide +kernel)
theorem wm_336 : (.methodLink RX6 26 yX5_clear : Cond) ∈ T0 := T0_in 336 (by decide +kernel) (by decide +kernel)
theorem wm_337 : (.instanceMethod yX5_clear : Cond) ∈ T0 := T0_in 337 (by decide +kernel) (by decide +kernel)
theorem wm_338 : (.selects RX5 yX5_clear yX5_clear : Cond) ∈ T0 := T0_in 338 (by decide +kernel) (by decide +kernel)
theorem wm_339 : (.code yX5_clear cX5_clear 1 none : Cond) ∈ T0 := T0_in 339 (by decide +kernel) (by decide +kernel)
theorem wm_340 : (.methodLink RX3 35 yX3_skipBlanks : Cond) ∈ T0 := T0_in 340 (by decide +kernel) (by decide +kernel)
theorem wm_342 : (.instanceMethod yX3_skipBlanks : Cond) ∈ T0 := T0_in 342 (by decide +kernel) (by decide +kernel)
theorem wm_343 : (.code yX3_skipBlanks cX3_skipBlanks 2 none : Cond) ∈ T0 := T0_in 343 (by decide +kernel) (by decide +kernel)
theorem wm_344 : (.methodLink RX3 51 yX3_letter : Cond) ∈ T0 := T0_in 344 (by decide +kernel) (by decide +kernel)
theorem wm_346 : (.instanceMethod yX3_letter : Cond) ∈ T0 := T0_in 346 (by decide +kernel) (by decide +kernel)
theorem wm_347 : (.code yX3_letter cX3_letter 1 (some .int) : Cond) ∈ T0 := T0_in 347 (by decide +kernel) (by decide +kernel)
theorem wm_348 : (.methodLink RX3 47 yX5_get : Cond) ∈ T0 := T0_in 348 (by decide +kernel) (by decide +kernel)
theorem wm_349 : (.instanceMethod yX5_get : Cond) ∈ T0 := T0_in 349 (by decide +kernel) (by decide +kernel)
theorem wm_350 : (.selects RX5 yX5_get yX5_get : Cond) ∈ T0 := T0_in 350 (by decide +kernel) (by decide +kernel)
theorem wm_351 : (.code yX5_get cX5_get 4 (some .int) : Cond) ∈ T0 := T0_in 351 (by decide +kernel) (by decide +kernel)
theorem wm_352 : (.methodLink RX3 38 yX5_rows : Cond) ∈ T0 := T0_in 352 (by decide +kernel) (by decide +kernel)
theorem wm_353 : (.methodLink RX3 44 yX3_readClause : Cond) ∈ T0 := T0_in 353 (by decide +kernel) (by decide +kernel)
theorem wm_355 : (.instanceMethod yX3_readClause : Cond) ∈ T0 := T0_in 355 (by decide +kernel) (by decide +kernel)
theorem wm_356 : (.code yX3_readClause cX3_readClause 5 none : Cond) ∈ T0 := T0_in 356 (by decide +kernel) (by decide +kernel)
theorem wm_357 : (.methodLink RX3 54 yX3_wordOf : Cond) ∈ T0 := T0_in 357 (by decide +kernel) (by decide +kernel)
theorem wm_358 : (.static yX3_wordOf : Cond) ∈ T0 := T0_in 358 (by decide +kernel) (by decide +kernel)
theorem wm_359 : (.code yX3_wordOf cX3_wordOf 1 (some .int) : Cond) ∈ T0 := T0_in 359 (by decide +kernel) (by decide +kernel)
theorem wm_360 : (.methodLink RX3 61 yX3_refuse : Cond) ∈ T0 := T0_in 360 (by decide +kernel) (by decide +kernel)
theorem wm_362 : (.instanceMethod yX3_refuse : Cond) ∈ T0 := T0_in 362 (by decide +kernel) (by decide +kernel)
theorem wm_363 : (.code yX3_refuse cX3_refuse 3 none : Cond) ∈ T0 := T0_in 363 (by decide +kernel) (by decide +kernel)
theorem wm_364 : (.methodLink RX3 65 yX3_clausesOf : Cond) ∈ T0 := T0_in 364 (by decide +kernel) (by decide +kernel)
theorem wm_366 : (.instanceMethod yX3_clausesOf : Cond) ∈ T0 := T0_in 366 (by decide +kernel) (by decide +kernel)
theorem wm_367 : (.code yX3_clausesOf cX3_clausesOf 2 (some (.object "BottomryLoans$Table")) : Cond) ∈ T0 := T0_in 367 (by decide +kernel) (by decide +kernel)
theorem wm_368 : (.methodLink RX3 69 yX5_isFull : Cond) ∈ T0 := T0_in 368 (by decide +kernel) (by decide +kernel)
theorem wm_369 : (.methodLink RX3 73 yX5_open : Cond) ∈ T0 := T0_in 369 (by decide +kernel) (by decide +kernel)
theorem wm_370 : (.methodLink RX3 76 yX5_width : Cond) ∈ T0 := T0_in 370 (by decide +kernel) (by decide +kernel)
theorem wm_371 : (.instanceMethod yX5_width : Cond) ∈ T0 := T0_in 371 (by decide +kernel) (by decide +kernel)
theorem wm_372 : (.selects RX5 yX5_width yX5_width : Cond) ∈ T0 := T0_in 372 (by decide +kernel) (by decide +kernel)
theorem wm_373 : (.code yX5_width cX5_width 1 (some .int) : Cond) ∈ T0 := T0_in 373 (by decide +kernel) (by decide +kernel)
theorem wm_374 : (.methodLink RX3 79 yX3_readNumber : Cond) ∈ T0 := T0_in 374 (by decide +kernel) (by decide +kernel)
theorem wm_376 : (.instanceMethod yX3_readNumber : Cond) ∈ T0 := T0_in 376 (by decide +kernel) (by decide +kernel)
theorem wm_377 : (.code yX3_readNumber cX3_readNumber 5 (some .int) : Cond) ∈ T0 := T0_in 377 (by decide +kernel) (by decide +kernel)
theorem wm_378 : (.methodLink RX3 95 Lib.Math.min.name : Cond) ∈ T0 := T0_in 378 (by decide +kernel) (by decide +kernel)
theorem wm_379 : (.static Lib.Math.min.name : Cond) ∈ T0 := T0_in 379 (by decide +kernel) (by decide +kernel)
theorem wm_380 : (.code Lib.Math.min.name Lib.Math.min.code 2 (some .int) : Cond) ∈ T0 := T0_in 380 (by decide +kernel) (by decide +kernel)
theorem wm_381 : (.methodLink RX3 100 yX3_isWithin : Cond) ∈ T0 := T0_in 381 (by decide +kernel) (by decide +kernel)
theorem wm_382 : (.static yX3_isWithin : Cond) ∈ T0 := T0_in 382 (by decide +kernel) (by decide +kernel)
theorem wm_383 : (.code yX3_isWithin cX3_isWithin 2 (some .boolean) : Cond) ∈ T0 := T0_in 383 (by decide +kernel) (by decide +kernel)
theorem wm_384 : (.fieldLink RX3 104 "BottomryLoans$Reader" "LEAST" "[I" : Cond) ∈ T0 := T0_in 384 (by decide +kernel) (by decide +kernel)
theorem wn_385 : (.laysStatic "BottomryLoans$Reader" "LEAST" "[I" : Cond) ∈ lw_tbl := List.mem_of_getElem? (i := 385) (by decide +kernel)
theorem wm_386 : (.fieldLink RX3 108 "BottomryLoans$Reader" "GREATEST" "[I" : Cond) ∈ T0 := T0_in 386 (by decide +kernel) (by decide +kernel)
theorem wn_387 : (.laysStatic "BottomryLoans$Reader" "GREATEST" "[I" : Cond) ∈ lw_tbl := List.mem_of_getElem? (i := 387) (by decide +kernel)
theorem wm_388 : (.methodLink RX3 82 yX5_set : Cond) ∈ T0 := T0_in 388 (by decide +kernel) (by decide +kernel)
theorem wm_389 : (.methodLink RX3 86 yX3_readEnd : Cond) ∈ T0 := T0_in 389 (by decide +kernel) (by decide +kernel)
theorem wm_391 : (.instanceMethod yX3_readEnd : Cond) ∈ T0 := T0_in 391 (by decide +kernel) (by decide +kernel)
theorem wm_392 : (.code yX3_readEnd cX3_readEnd 1 none : Cond) ∈ T0 := T0_in 392 (by decide +kernel) (by decide +kernel)
theorem wm_393 : (.methodLink RX7 97 yX3_placeOfFault : Cond) ∈ T0 := T0_in 393 (by decide +kernel) (by decide +kernel)
theorem wm_394 : (.instanceMethod yX3_placeOfFault : Cond) ∈ T0 := T0_in 394 (by decide +kernel) (by decide +kernel)
theorem wm_395 : (.selects RX3 yX3_placeOfFault yX3_placeOfFault : Cond) ∈ T0 := T0_in 395 (by decide +kernel) (by decide +kernel)
theorem wm_396 : (.code yX3_placeOfFault cX3_placeOfFault 1 (some .int) : Cond) ∈ T0 := T0_in 396 (by decide +kernel) (by decide +kernel)
theorem wm_397 : (.methodLink RX7 100 yX5_clear : Cond) ∈ T0 := T0_in 397 (by decide +kernel) (by decide +kernel)
theorem wm_398 : (.methodLink RX7 103 yX3_whatWasRead : Cond) ∈ T0 := T0_in 398 (by decide +kernel) (by decide +kernel)
theorem wm_399 : (.instanceMethod yX3_whatWasRead : Cond) ∈ T0 := T0_in 399 (by decide +kernel) (by decide +kernel)
theorem wm_400 : (.selects RX3 yX3_whatWasRead yX3_whatWasRead : Cond) ∈ T0 := T0_in 400 (by decide +kernel) (by decide +kernel)
theorem wm_401 : (.code yX3_whatWasRead cX3_whatWasRead 1 (some (.object "BottomryLoans$Voyage")) : Cond) ∈ T0 := T0_in 401 (by decide +kernel) (by decide +kernel)
theorem wm_402 : (.methodLink RX7 107 yX6_become : Cond) ∈ T0 := T0_in 402 (by decide +kernel) (by decide +kernel)
theorem wm_403 : (.instanceMethod yX6_become : Cond) ∈ T0 := T0_in 403 (by decide +kernel) (by decide +kernel)
theorem wm_404 : (.selects RX6 yX6_become yX6_become : Cond) ∈ T0 := T0_in 404 (by decide +kernel) (by decide +kernel)
theorem wm_405 : (.code yX6_become cX6_become 2 none : Cond) ∈ T0 := T0_in 405 (by decide +kernel) (by decide +kernel)
theorem wm_406 : (.methodLink RX6 29 yX5_become : Cond) ∈ T0 := T0_in 406 (by decide +kernel) (by decide +kernel)
theorem wm_407 : (.instanceMethod yX5_become : Cond) ∈ T0 := T0_in 407 (by decide +kernel) (by decide +kernel)
theorem wm_408 : (.selects RX5 yX5_become yX5_become : Cond) ∈ T0 := T0_in 408 (by decide +kernel) (by decide +kernel)
theorem wm_409 : (.code yX5_become cX5_become 2 none : Cond) ∈ T0 := T0_in 409 (by decide +kernel) (by decide +kernel)
theorem wm_410 : (.methodLink RX5 46 Lib.Math.min.name : Cond) ∈ T0 := T0_in 410 (by decide +kernel) (by decide +kernel)
theorem wm_411 : (.methodLink RX5 49 arraycopyName : Cond) ∈ T0 := T0_in 411 (by decide +kernel) (by decide +kernel)
theorem wm_412 : (.static arraycopyName : Cond) ∈ T0 := T0_in 412 (by decide +kernel) (by decide +kernel)
theorem wm_413 : (.native arraycopyName : Cond) ∈ T0 := T0_in 413 (by decide +kernel) (by decide +kernel)
theorem wm_414 : (.methodLink RX7 110 yX4_begin : Cond) ∈ T0 := T0_in 414 (by decide +kernel) (by decide +kernel)
theorem wm_415 : (.instanceMethod yX4_begin : Cond) ∈ T0 := T0_in 415 (by decide +kernel) (by decide +kernel)
theorem wm_416 : (.selects RX4 yX4_begin yX4_begin : Cond) ∈ T0 := T0_in 416 (by decide +kernel) (by decide +kernel)
theorem wm_417 : (.code yX4_begin cX4_begin 2 none : Cond) ∈ T0 := T0_in 417 (by decide +kernel) (by decide +kernel)
theorem wm_418 : (.methodLink RX4 34 yX5_clear : Cond) ∈ T0 := T0_in 418 (by decide +kernel) (by decide +kernel)
theorem wm_419 : (.methodLink RX4 42 yX5_get : Cond) ∈ T0 := T0_in 419 (by decide +kernel) (by decide +kernel)
theorem wm_420 : (.methodLink RX7 117 yX1_clear : Cond) ∈ T0 := T0_in 420 (by decide +kernel) (by decide +kernel)
theorem wm_421 : (.instanceMethod yX1_clear : Cond) ∈ T0 := T0_in 421 (by decide +kernel) (by decide +kernel)
theorem wm_422 : (.selects RX1 yX1_clear yX1_clear : Cond) ∈ T0 := T0_in 422 (by decide +kernel) (by decide +kernel)
theorem wm_423 : (.code yX1_clear cX1_clear 1 none : Cond) ∈ T0 := T0_in 423 (by decide +kernel) (by decide +kernel)
theorem wm_424 : (.methodLink RX7 118 yX2_forget : Cond) ∈ T0 := T0_in 424 (by decide +kernel) (by decide +kernel)
theorem wm_425 : (.instanceMethod yX2_forget : Cond) ∈ T0 := T0_in 425 (by decide +kernel) (by decide +kernel)
theorem wm_426 : (.selects RX2 yX2_forget yX2_forget : Cond) ∈ T0 := T0_in 426 (by decide +kernel) (by decide +kernel)
theorem wm_427 : (.code yX2_forget cX2_forget 1 none : Cond) ∈ T0 := T0_in 427 (by decide +kernel) (by decide +kernel)
theorem wm_428 : (.methodLink RL 23 yX7_fault : Cond) ∈ T0 := T0_in 428 (by decide +kernel) (by decide +kernel)
theorem wm_429 : (.instanceMethod yX7_fault : Cond) ∈ T0 := T0_in 429 (by decide +kernel) (by decide +kernel)
theorem wm_430 : (.selects RX7 yX7_fault yX7_fault : Cond) ∈ T0 := T0_in 430 (by decide +kernel) (by decide +kernel)
theorem wm_431 : (.code yX7_fault cX7_fault 1 (some .int) : Cond) ∈ T0 := T0_in 431 (by decide +kernel) (by decide +kernel)
theorem wm_432 : (.methodLink RL 27 yX7_told : Cond) ∈ T0 := T0_in 432 (by decide +kernel) (by decide +kernel)
theorem wm_433 : (.instanceMethod yX7_told : Cond) ∈ T0 := T0_in 433 (by decide +kernel) (by decide +kernel)
theorem wm_434 : (.selects RX7 yX7_told yX7_told : Cond) ∈ T0 := T0_in 434 (by decide +kernel) (by decide +kernel)
theorem wm_435 : (.code yX7_told cX7_told 2 (some .int) : Cond) ∈ T0 := T0_in 435 (by decide +kernel) (by decide +kernel)
theorem wm_436 : (.methodLink RX7 127 yX5_get : Cond) ∈ T0 := T0_in 436 (by decide +kernel) (by decide +kernel)
theorem wm_437 : (.methodLink RX7 146 yX7_whereSheIs : Cond) ∈ T0 := T0_in 437 (by decide +kernel) (by decide +kernel)
theorem wm_439 : (.instanceMethod yX7_whereSheIs : Cond) ∈ T0 := T0_in 439 (by decide +kernel) (by decide +kernel)
theorem wm_440 : (.code yX7_whereSheIs cX7_whereSheIs 1 (some .int) : Cond) ∈ T0 := T0_in 440 (by decide +kernel) (by decide +kernel)
theorem wm_441 : (.methodLink RX7 166 yX5_has : Cond) ∈ T0 := T0_in 441 (by decide +kernel) (by decide +kernel)
theorem wm_442 : (.instanceMethod yX5_has : Cond) ∈ T0 := T0_in 442 (by decide +kernel) (by decide +kernel)
theorem wm_443 : (.selects RX5 yX5_has yX5_has : Cond) ∈ T0 := T0_in 443 (by decide +kernel) (by decide +kernel)
theorem wm_444 : (.code yX5_has cX5_has 2 (some .boolean) : Cond) ∈ T0 := T0_in 444 (by decide +kernel) (by decide +kernel)
theorem wm_445 : (.methodLink RX7 149 yX4_dueFrom : Cond) ∈ T0 := T0_in 445 (by decide +kernel) (by decide +kernel)
theorem wm_446 : (.instanceMethod yX4_dueFrom : Cond) ∈ T0 := T0_in 446 (by decide +kernel) (by decide +kernel)
theorem wm_447 : (.selects RX4 yX4_dueFrom yX4_dueFrom : Cond) ∈ T0 := T0_in 447 (by decide +kernel) (by decide +kernel)
theorem wm_448 : (.code yX4_dueFrom cX4_dueFrom 5 (some .int) : Cond) ∈ T0 := T0_in 448 (by decide +kernel) (by decide +kernel)
theorem wm_449 : (.methodLink RX4 55 yX5_rows : Cond) ∈ T0 := T0_in 449 (by decide +kernel) (by decide +kernel)
theorem wm_450 : (.methodLink RX7 152 yX7_cannotTry : Cond) ∈ T0 := T0_in 450 (by decide +kernel) (by decide +kernel)
theorem wm_452 : (.instanceMethod yX7_cannotTry : Cond) ∈ T0 := T0_in 452 (by decide +kernel) (by decide +kernel)
theorem wm_453 : (.code yX7_cannotTry cX7_cannotTry 1 (some .boolean) : Cond) ∈ T0 := T0_in 453 (by decide +kernel) (by decide +kernel)
theorem wm_454 : (.methodLink RX7 155 yX7_leftBesidesPurse : Cond) ∈ T0 := T0_in 454 (by decide +kernel) (by decide +kernel)
theorem wm_456 : (.instanceMethod yX7_leftBesidesPurse : Cond) ∈ T0 := T0_in 456 (by decide +kernel) (by decide +kernel)
theorem wm_457 : (.code yX7_leftBesidesPurse cX7_leftBesidesPurse 1 (some .int) : Cond) ∈ T0 := T0_in 457 (by decide +kernel) (by decide +kernel)
theorem wm_458 : (.methodLink RX7 225 yX7_shipMoney : Cond) ∈ T0 := T0_in 458 (by decide +kernel) (by decide +kernel)
theorem wm_460 : (.instanceMethod yX7_shipMoney : Cond) ∈ T0 := T0_in 460 (by decide +kernel) (by decide +kernel)
theorem wm_461 : (.code yX7_shipMoney cX7_shipMoney 2 (some .int) : Cond) ∈ T0 := T0_in 461 (by decide +kernel) (by decide +kernel)
theorem wm_462 : (.methodLink RX7 158 Lib.Math.max.name : Cond) ∈ T0 := T0_in 462 (by decide +kernel) (by decide +kernel)
theorem wm_463 : (.methodLink RX7 163 yX1_acts : Cond) ∈ T0 := T0_in 463 (by decide +kernel) (by decide +kernel)
theorem wm_464 : (.instanceMethod yX1_acts : Cond) ∈ T0 := T0_in 464 (by decide +kernel) (by decide +kernel)
theorem wm_465 : (.selects RX1 yX1_acts yX1_acts : Cond) ∈ T0 := T0_in 465 (by decide +kernel) (by decide +kernel)
theorem wm_466 : (.code yX1_acts cX1_acts 1 (some .int) : Cond) ∈ T0 := T0_in 466 (by decide +kernel) (by decide +kernel)
theorem wm_467 : (.methodLink RL 31 yX7_leg : Cond) ∈ T0 := T0_in 467 (by decide +kernel) (by decide +kernel)
theorem wm_468 : (.instanceMethod yX7_leg : Cond) ∈ T0 := T0_in 468 (by decide +kernel) (by decide +kernel)
theorem wm_469 : (.selects RX7 yX7_leg yX7_leg : Cond) ∈ T0 := T0_in 469 (by decide +kernel) (by decide +kernel)
theorem wm_470 : (.code yX7_leg cX7_leg 3 (some .int) : Cond) ∈ T0 := T0_in 470 (by decide +kernel) (by decide +kernel)
theorem wm_471 : (.constant RX7 170 (-1000000001) : Cond) ∈ T0 := T0_in 471 (by decide +kernel) (by decide +kernel)
theorem wm_472 : (.methodLink RX7 171 yX6_oddsOf : Cond) ∈ T0 := T0_in 472 (by decide +kernel) (by decide +kernel)
theorem wm_473 : (.instanceMethod yX6_oddsOf : Cond) ∈ T0 := T0_in 473 (by decide +kernel) (by decide +kernel)
theorem wm_474 : (.selects RX6 yX6_oddsOf yX6_oddsOf : Cond) ∈ T0 := T0_in 474 (by decide +kernel) (by decide +kernel)
theorem wm_475 : (.code yX6_oddsOf cX6_oddsOf 4 (some .int) : Cond) ∈ T0 := T0_in 475 (by decide +kernel) (by decide +kernel)
theorem wm_476 : (.methodLink RX6 33 yX5_get : Cond) ∈ T0 := T0_in 476 (by decide +kernel) (by decide +kernel)
theorem wm_477 : (.methodLink RX6 37 Lib.Math.min.name : Cond) ∈ T0 := T0_in 477 (by decide +kernel) (by decide +kernel)
theorem wm_478 : (.methodLink RL 36 yX7_lender : Cond) ∈ T0 := T0_in 478 (by decide +kernel) (by decide +kernel)
theorem wm_479 : (.instanceMethod yX7_lender : Cond) ∈ T0 := T0_in 479 (by decide +kernel) (by decide +kernel)
theorem wm_480 : (.selects RX7 yX7_lender yX7_lender : Cond) ∈ T0 := T0_in 480 (by decide +kernel) (by decide +kernel)
theorem wm_481 : (.code yX7_lender cX7_lender 3 (some .int) : Cond) ∈ T0 := T0_in 481 (by decide +kernel) (by decide +kernel)
theorem wm_482 : (.methodLink RX7 174 yX7_hasYet : Cond) ∈ T0 := T0_in 482 (by decide +kernel) (by decide +kernel)
theorem wm_484 : (.instanceMethod yX7_hasYet : Cond) ∈ T0 := T0_in 484 (by decide +kernel) (by decide +kernel)
theorem wm_485 : (.code yX7_hasYet cX7_hasYet 2 (some .int) : Cond) ∈ T0 := T0_in 485 (by decide +kernel) (by decide +kernel)
theorem wm_486 : (.methodLink RX7 280 yX4_lentBy : Cond) ∈ T0 := T0_in 486 (by decide +kernel) (by decide +kernel)
theorem wm_487 : (.instanceMethod yX4_lentBy : Cond) ∈ T0 := T0_in 487 (by decide +kernel) (by decide +kernel)
theorem wm_488 : (.selects RX4 yX4_lentBy yX4_lentBy : Cond) ∈ T0 := T0_in 488 (by decide +kernel) (by decide +kernel)
theorem wm_489 : (.code yX4_lentBy cX4_lentBy 4 (some .int) : Cond) ∈ T0 := T0_in 489 (by decide +kernel) (by decide +kernel)
theorem wm_490 : (.methodLink RL 40 yX7_loan : Cond) ∈ T0 := T0_in 490 (by decide +kernel) (by decide +kernel)
theorem wm_491 : (.instanceMethod yX7_loan : Cond) ∈ T0 := T0_in 491 (by decide +kernel) (by decide +kernel)
theorem wm_492 : (.selects RX7 yX7_loan yX7_loan : Cond) ∈ T0 := T0_in 492 (by decide +kernel) (by decide +kernel)
theorem wm_493 : (.code yX7_loan cX7_loan 3 (some .int) : Cond) ∈ T0 := T0_in 493 (by decide +kernel) (by decide +kernel)
theorem wm_494 : (.methodLink RX7 178 yX4_rankOf : Cond) ∈ T0 := T0_in 494 (by decide +kernel) (by decide +kernel)
theorem wm_495 : (.instanceMethod yX4_rankOf : Cond) ∈ T0 := T0_in 495 (by decide +kernel) (by decide +kernel)
theorem wm_496 : (.selects RX4 yX4_rankOf yX4_rankOf : Cond) ∈ T0 := T0_in 496 (by decide +kernel) (by decide +kernel)
theorem wm_497 : (.code yX4_rankOf cX4_rankOf 4 (some .int) : Cond) ∈ T0 := T0_in 497 (by decide +kernel) (by decide +kernel)
theorem wm_498 : (.methodLink RX4 59 yX4_countFrom : Cond) ∈ T0 := T0_in 498 (by decide +kernel) (by decide +kernel)
theorem wm_500 : (.instanceMethod yX4_countFrom : Cond) ∈ T0 := T0_in 500 (by decide +kernel) (by decide +kernel)
theorem wm_501 : (.code yX4_countFrom cX4_countFrom 5 (some .int) : Cond) ∈ T0 := T0_in 501 (by decide +kernel) (by decide +kernel)
theorem wm_502 : (.methodLink RL 44 yX7_borrow : Cond) ∈ T0 := T0_in 502 (by decide +kernel) (by decide +kernel)
theorem wm_503 : (.instanceMethod yX7_borrow : Cond) ∈ T0 := T0_in 503 (by decide +kernel) (by decide +kernel)
theorem wm_504 : (.selects RX7 yX7_borrow yX7_borrow : Cond) ∈ T0 := T0_in 504 (by decide +kernel) (by decide +kernel)
theorem wm_505 : (.code yX7_borrow cX7_borrow 5 (some .int) : Cond) ∈ T0 := T0_in 505 (by decide +kernel) (by decide +kernel)
theorem wm_506 : (.methodLink RX7 181 yX7_isInPort : Cond) ∈ T0 := T0_in 506 (by decide +kernel) (by decide +kernel)
theorem wm_508 : (.instanceMethod yX7_isInPort : Cond) ∈ T0 := T0_in 508 (by decide +kernel) (by decide +kernel)
theorem wm_509 : (.code yX7_isInPort cX7_isInPort 1 (some .boolean) : Cond) ∈ T0 := T0_in 509 (by decide +kernel) (by decide +kernel)
theorem wm_510 : (.constant RX7 184 (-1000000003) : Cond) ∈ T0 := T0_in 510 (by decide +kernel) (by decide +kernel)
theorem wm_511 : (.methodLink RX7 185 yX7_remember : Cond) ∈ T0 := T0_in 511 (by decide +kernel) (by decide +kernel)
theorem wm_513 : (.instanceMethod yX7_remember : Cond) ∈ T0 := T0_in 513 (by decide +kernel) (by decide +kernel)
theorem wm_514 : (.code yX7_remember cX7_remember 1 none : Cond) ∈ T0 := T0_in 514 (by decide +kernel) (by decide +kernel)
theorem wm_515 : (.methodLink RX7 270 yX1_put : Cond) ∈ T0 := T0_in 515 (by decide +kernel) (by decide +kernel)
theorem wm_516 : (.instanceMethod yX1_put : Cond) ∈ T0 := T0_in 516 (by decide +kernel) (by decide +kernel)
theorem wm_517 : (.selects RX1 yX1_put yX1_put : Cond) ∈ T0 := T0_in 517 (by decide +kernel) (by decide +kernel)
theorem wm_518 : (.code yX1_put cX1_put 3 none : Cond) ∈ T0 := T0_in 518 (by decide +kernel) (by decide +kernel)
theorem wm_519 : (.methodLink RX1 25 yX1_slotOf : Cond) ∈ T0 := T0_in 519 (by decide +kernel) (by decide +kernel)
theorem wm_521 : (.instanceMethod yX1_slotOf : Cond) ∈ T0 := T0_in 521 (by decide +kernel) (by decide +kernel)
theorem wm_522 : (.code yX1_slotOf cX1_slotOf 2 (some (.object "BottomryLoans$She")) : Cond) ∈ T0 := T0_in 522 (by decide +kernel) (by decide +kernel)
theorem wm_523 : (.methodLink RX1 29 yX4_become : Cond) ∈ T0 := T0_in 523 (by decide +kernel) (by decide +kernel)
theorem wm_524 : (.instanceMethod yX4_become : Cond) ∈ T0 := T0_in 524 (by decide +kernel) (by decide +kernel)
theorem wm_525 : (.selects RX4 yX4_become yX4_become : Cond) ∈ T0 := T0_in 525 (by decide +kernel) (by decide +kernel)
theorem wm_526 : (.code yX4_become cX4_become 2 none : Cond) ∈ T0 := T0_in 526 (by decide +kernel) (by decide +kernel)
theorem wm_527 : (.methodLink RX4 46 yX5_become : Cond) ∈ T0 := T0_in 527 (by decide +kernel) (by decide +kernel)
theorem wm_528 : (.methodLink RX1 33 Lib.Math.min.name : Cond) ∈ T0 := T0_in 528 (by decide +kernel) (by decide +kernel)
theorem wm_529 : (.methodLink RX7 188 yX5_open : Cond) ∈ T0 := T0_in 529 (by decide +kernel) (by decide +kernel)
theorem wm_530 : (.methodLink RX7 191 yX5_set : Cond) ∈ T0 := T0_in 530 (by decide +kernel) (by decide +kernel)
theorem wm_531 : (.methodLink RX7 195 yX6_dueOf : Cond) ∈ T0 := T0_in 531 (by decide +kernel) (by decide +kernel)
theorem wm_532 : (.instanceMethod yX6_dueOf : Cond) ∈ T0 := T0_in 532 (by decide +kernel) (by decide +kernel)
theorem wm_533 : (.selects RX6 yX6_dueOf yX6_dueOf : Cond) ∈ T0 := T0_in 533 (by decide +kernel) (by decide +kernel)
theorem wm_534 : (.code yX6_dueOf cX6_dueOf 3 (some .int) : Cond) ∈ T0 := T0_in 534 (by decide +kernel) (by decide +kernel)
theorem wm_535 : (.methodLink RL 49 yX7_repair : Cond) ∈ T0 := T0_in 535 (by decide +kernel) (by decide +kernel)
theorem wm_536 : (.instanceMethod yX7_repair : Cond) ∈ T0 := T0_in 536 (by decide +kernel) (by decide +kernel)
theorem wm_537 : (.selects RX7 yX7_repair yX7_repair : Cond) ∈ T0 := T0_in 537 (by decide +kernel) (by decide +kernel)
theorem wm_538 : (.code yX7_repair cX7_repair 3 (some .int) : Cond) ∈ T0 := T0_in 538 (by decide +kernel) (by decide +kernel)
theorem wm_539 : (.methodLink RX7 198 yX7_costHere : Cond) ∈ T0 := T0_in 539 (by decide +kernel) (by decide +kernel)
theorem wm_541 : (.instanceMethod yX7_costHere : Cond) ∈ T0 := T0_in 541 (by decide +kernel) (by decide +kernel)
theorem wm_542 : (.code yX7_costHere cX7_costHere 1 (some .int) : Cond) ∈ T0 := T0_in 542 (by decide +kernel) (by decide +kernel)
theorem wm_543 : (.methodLink RL 53 yX7_sail : Cond) ∈ T0 := T0_in 543 (by decide +kernel) (by decide +kernel)
theorem wm_544 : (.instanceMethod yX7_sail : Cond) ∈ T0 := T0_in 544 (by decide +kernel) (by decide +kernel)
theorem wm_545 : (.selects RX7 yX7_sail yX7_sail : Cond) ∈ T0 := T0_in 545 (by decide +kernel) (by decide +kernel)
theorem wm_546 : (.code yX7_sail cX7_sail 2 (some .int) : Cond) ∈ T0 := T0_in 546 (by decide +kernel) (by decide +kernel)
theorem wm_547 : (.methodLink RX7 201 yX4_sailOn : Cond) ∈ T0 := T0_in 547 (by decide +kernel) (by decide +kernel)
theorem wm_548 : (.instanceMethod yX4_sailOn : Cond) ∈ T0 := T0_in 548 (by decide +kernel) (by decide +kernel)
theorem wm_549 : (.selects RX4 yX4_sailOn yX4_sailOn : Cond) ∈ T0 := T0_in 549 (by decide +kernel) (by decide +kernel)
theorem wm_550 : (.code yX4_sailOn cX4_sailOn 2 none : Cond) ∈ T0 := T0_in 550 (by decide +kernel) (by decide +kernel)
theorem wm_551 : (.methodLink RX4 50 Lib.Math.max.name : Cond) ∈ T0 := T0_in 551 (by decide +kernel) (by decide +kernel)
theorem wm_552 : (.methodLink RL 58 yX7_drift : Cond) ∈ T0 := T0_in 552 (by decide +kernel) (by decide +kernel)
theorem wm_553 : (.instanceMethod yX7_drift : Cond) ∈ T0 := T0_in 553 (by decide +kernel) (by decide +kernel)
theorem wm_554 : (.selects RX7 yX7_drift yX7_drift : Cond) ∈ T0 := T0_in 554 (by decide +kernel) (by decide +kernel)
theorem wm_555 : (.code yX7_drift cX7_drift 4 (some .int) : Cond) ∈ T0 := T0_in 555 (by decide +kernel) (by decide +kernel)
theorem wm_556 : (.methodLink RX7 205 yX7_drawOfHundred : Cond) ∈ T0 := T0_in 556 (by decide +kernel) (by decide +kernel)
theorem wm_558 : (.instanceMethod yX7_drawOfHundred : Cond) ∈ T0 := T0_in 558 (by decide +kernel) (by decide +kernel)
theorem wm_559 : (.code yX7_drawOfHundred cX7_drawOfHundred 3 (some .int) : Cond) ∈ T0 := T0_in 559 (by decide +kernel) (by decide +kernel)
theorem wm_560 : (.constantLong RX7 273 (1103515245) : Cond) ∈ T0 := T0_in 560 (by decide +kernel) (by decide +kernel)
theorem wm_561 : (.constantLong RX7 275 (12345) : Cond) ∈ T0 := T0_in 561 (by decide +kernel) (by decide +kernel)
theorem wm_562 : (.constantLong RX7 277 (2147483647) : Cond) ∈ T0 := T0_in 562 (by decide +kernel) (by decide +kernel)
theorem wm_563 : (.constant RX7 279 (65536) : Cond) ∈ T0 := T0_in 563 (by decide +kernel) (by decide +kernel)
theorem wm_564 : (.methodLink RL 62 yX7_undo : Cond) ∈ T0 := T0_in 564 (by decide +kernel) (by decide +kernel)
theorem wm_565 : (.instanceMethod yX7_undo : Cond) ∈ T0 := T0_in 565 (by decide +kernel) (by decide +kernel)
theorem wm_566 : (.selects RX7 yX7_undo yX7_undo : Cond) ∈ T0 := T0_in 566 (by decide +kernel) (by decide +kernel)
theorem wm_567 : (.code yX7_undo cX7_undo 1 (some .int) : Cond) ∈ T0 := T0_in 567 (by decide +kernel) (by decide +kernel)
theorem wm_568 : (.methodLink RX7 208 yX1_takeBack : Cond) ∈ T0 := T0_in 568 (by decide +kernel) (by decide +kernel)
theorem wm_569 : (.instanceMethod yX1_takeBack : Cond) ∈ T0 := T0_in 569 (by decide +kernel) (by decide +kernel)
theorem wm_570 : (.selects RX1 yX1_takeBack yX1_takeBack : Cond) ∈ T0 := T0_in 570 (by decide +kernel) (by decide +kernel)
theorem wm_571 : (.code yX1_takeBack cX1_takeBack 4 none : Cond) ∈ T0 := T0_in 571 (by decide +kernel) (by decide +kernel)
theorem wm_572 : (.methodLink RL 66 yX7_comesHome : Cond) ∈ T0 := T0_in 572 (by decide +kernel) (by decide +kernel)
theorem wm_573 : (.instanceMethod yX7_comesHome : Cond) ∈ T0 := T0_in 573 (by decide +kernel) (by decide +kernel)
theorem wm_574 : (.selects RX7 yX7_comesHome yX7_comesHome : Cond) ∈ T0 := T0_in 574 (by decide +kernel) (by decide +kernel)
theorem wm_575 : (.code yX7_comesHome cX7_comesHome 1 (some .int) : Cond) ∈ T0 := T0_in 575 (by decide +kernel) (by decide +kernel)
theorem wm_576 : (.methodLink RX7 212 yX6_chanceThrough : Cond) ∈ T0 := T0_in 576 (by decide +kernel) (by decide +kernel)
theorem wm_577 : (.instanceMethod yX6_chanceThrough : Cond) ∈ T0 := T0_in 577 (by decide +kernel) (by decide +kernel)
theorem wm_578 : (.selects RX6 yX6_chanceThrough yX6_chanceThrough : Cond) ∈ T0 := T0_in 578 (by decide +kernel) (by decide +kernel)
theorem wm_579 : (.code yX6_chanceThrough cX6_chanceThrough 7 (some .int) : Cond) ∈ T0 := T0_in 579 (by decide +kernel) (by decide +kernel)
theorem wm_580 : (.constant RX6 45 (1000000) : Cond) ∈ T0 := T0_in 580 (by decide +kernel) (by decide +kernel)
theorem wm_581 : (.methodLink RX6 46 yX6_comeThrough : Cond) ∈ T0 := T0_in 581 (by decide +kernel) (by decide +kernel)
theorem wm_582 : (.instanceMethod yX6_comeThrough : Cond) ∈ T0 := T0_in 582 (by decide +kernel) (by decide +kernel)
theorem wm_583 : (.selects RX6 yX6_comeThrough yX6_comeThrough : Cond) ∈ T0 := T0_in 583 (by decide +kernel) (by decide +kernel)
theorem wm_584 : (.code yX6_comeThrough cX6_comeThrough 4 (some .int) : Cond) ∈ T0 := T0_in 584 (by decide +kernel) (by decide +kernel)
theorem wm_585 : (.methodLink RX6 42 yX6_oddsOf : Cond) ∈ T0 := T0_in 585 (by decide +kernel) (by decide +kernel)
theorem wm_586 : (.methodLink RX6 50 Lib.Math.max.name : Cond) ∈ T0 := T0_in 586 (by decide +kernel) (by decide +kernel)
theorem wm_587 : (.methodLink RL 70 yX7_rate : Cond) ∈ T0 := T0_in 587 (by decide +kernel) (by decide +kernel)
theorem wm_588 : (.instanceMethod yX7_rate : Cond) ∈ T0 := T0_in 588 (by decide +kernel) (by decide +kernel)
theorem wm_589 : (.selects RX7 yX7_rate yX7_rate : Cond) ∈ T0 := T0_in 589 (by decide +kernel) (by decide +kernel)
theorem wm_590 : (.code yX7_rate cX7_rate 1 (some .int) : Cond) ∈ T0 := T0_in 590 (by decide +kernel) (by decide +kernel)
theorem wm_591 : (.methodLink RX7 216 yX7_comesHome : Cond) ∈ T0 := T0_in 591 (by decide +kernel) (by decide +kernel)
theorem wm_592 : (.methodLink RX7 219 yX7_rateFor : Cond) ∈ T0 := T0_in 592 (by decide +kernel) (by decide +kernel)
theorem wm_593 : (.static yX7_rateFor : Cond) ∈ T0 := T0_in 593 (by decide +kernel) (by decide +kernel)
theorem wm_594 : (.code yX7_rateFor cX7_rateFor 2 (some .int) : Cond) ∈ T0 := T0_in 594 (by decide +kernel) (by decide +kernel)
theorem wm_595 : (.constant RX7 283 (100000000) : Cond) ∈ T0 := T0_in 595 (by decide +kernel) (by decide +kernel)
theorem wm_596 : (.methodLink RL 74 yX7_willing : Cond) ∈ T0 := T0_in 596 (by decide +kernel) (by decide +kernel)
theorem wm_597 : (.instanceMethod yX7_willing : Cond) ∈ T0 := T0_in 597 (by decide +kernel) (by decide +kernel)
theorem wm_598 : (.selects RX7 yX7_willing yX7_willing : Cond) ∈ T0 := T0_in 598 (by decide +kernel) (by decide +kernel)
theorem wm_599 : (.code yX7_willing cX7_willing 4 (some .int) : Cond) ∈ T0 := T0_in 599 (by decide +kernel) (by decide +kernel)
theorem wm_600 : (.methodLink RL 78 yX7_paid : Cond) ∈ T0 := T0_in 600 (by decide +kernel) (by decide +kernel)
theorem wm_601 : (.instanceMethod yX7_paid : Cond) ∈ T0 := T0_in 601 (by decide +kernel) (by decide +kernel)
theorem wm_602 : (.selects RX7 yX7_paid yX7_paid : Cond) ∈ T0 := T0_in 602 (by decide +kernel) (by decide +kernel)
theorem wm_603 : (.code yX7_paid cX7_paid 2 (some .int) : Cond) ∈ T0 := T0_in 603 (by decide +kernel) (by decide +kernel)
theorem wm_604 : (.methodLink RX7 222 yX7_paidNow : Cond) ∈ T0 := T0_in 604 (by decide +kernel) (by decide +kernel)
theorem wm_606 : (.instanceMethod yX7_paidNow : Cond) ∈ T0 := T0_in 606 (by decide +kernel) (by decide +kernel)
theorem wm_607 : (.code yX7_paidNow cX7_paidNow 3 (some .int) : Cond) ∈ T0 := T0_in 607 (by decide +kernel) (by decide +kernel)
theorem wm_608 : (.methodLink RX7 228 yX4_paidOf : Cond) ∈ T0 := T0_in 608 (by decide +kernel) (by decide +kernel)
theorem wm_609 : (.instanceMethod yX4_paidOf : Cond) ∈ T0 := T0_in 609 (by decide +kernel) (by decide +kernel)
theorem wm_610 : (.selects RX4 yX4_paidOf yX4_paidOf : Cond) ∈ T0 := T0_in 610 (by decide +kernel) (by decide +kernel)
theorem wm_611 : (.code yX4_paidOf cX4_paidOf 7 (some .int) : Cond) ∈ T0 := T0_in 611 (by decide +kernel) (by decide +kernel)
theorem wm_612 : (.methodLink RX4 62 yX4_dueFrom : Cond) ∈ T0 := T0_in 612 (by decide +kernel) (by decide +kernel)
theorem wm_613 : (.methodLink RX4 65 Lib.Math.min.name : Cond) ∈ T0 := T0_in 613 (by decide +kernel) (by decide +kernel)
theorem wm_614 : (.methodLink RL 82 yX7_hurt : Cond) ∈ T0 := T0_in 614 (by decide +kernel) (by decide +kernel)
theorem wm_615 : (.instanceMethod yX7_hurt : Cond) ∈ T0 := T0_in 615 (by decide +kernel) (by decide +kernel)
theorem wm_616 : (.selects RX7 yX7_hurt yX7_hurt : Cond) ∈ T0 := T0_in 616 (by decide +kernel) (by decide +kernel)
theorem wm_617 : (.code yX7_hurt cX7_hurt 9 (some .int) : Cond) ∈ T0 := T0_in 617 (by decide +kernel) (by decide +kernel)
theorem wm_618 : (.methodLink RL 86 yX7_share : Cond) ∈ T0 := T0_in 618 (by decide +kernel) (by decide +kernel)
theorem wm_619 : (.instanceMethod yX7_share : Cond) ∈ T0 := T0_in 619 (by decide +kernel) (by decide +kernel)
theorem wm_620 : (.selects RX7 yX7_share yX7_share : Cond) ∈ T0 := T0_in 620 (by decide +kernel) (by decide +kernel)
theorem wm_621 : (.code yX7_share cX7_share 3 (some .int) : Cond) ∈ T0 := T0_in 621 (by decide +kernel) (by decide +kernel)
theorem wm_622 : (.methodLink RL 90 yX7_plan : Cond) ∈ T0 := T0_in 622 (by decide +kernel) (by decide +kernel)
theorem wm_623 : (.instanceMethod yX7_plan : Cond) ∈ T0 := T0_in 623 (by decide +kernel) (by decide +kernel)
theorem wm_624 : (.selects RX7 yX7_plan yX7_plan : Cond) ∈ T0 := T0_in 624 (by decide +kernel) (by decide +kernel)
theorem wm_625 : (.code yX7_plan cX7_plan 2 (some .int) : Cond) ∈ T0 := T0_in 625 (by decide +kernel) (by decide +kernel)
theorem wm_626 : (.methodLink RX7 231 yX2_isDone : Cond) ∈ T0 := T0_in 626 (by decide +kernel) (by decide +kernel)
theorem wm_627 : (.instanceMethod yX2_isDone : Cond) ∈ T0 := T0_in 627 (by decide +kernel) (by decide +kernel)
theorem wm_628 : (.selects RX2 yX2_isDone yX2_isDone : Cond) ∈ T0 := T0_in 628 (by decide +kernel) (by decide +kernel)
theorem wm_629 : (.code yX2_isDone cX2_isDone 1 (some .boolean) : Cond) ∈ T0 := T0_in 629 (by decide +kernel) (by decide +kernel)
theorem wm_630 : (.methodLink RX7 234 yX2_findBest : Cond) ∈ T0 := T0_in 630 (by decide +kernel) (by decide +kernel)
theorem wm_631 : (.instanceMethod yX2_findBest : Cond) ∈ T0 := T0_in 631 (by decide +kernel) (by decide +kernel)
theorem wm_632 : (.selects RX2 yX2_findBest yX2_findBest : Cond) ∈ T0 := T0_in 632 (by decide +kernel) (by decide +kernel)
theorem wm_633 : (.code yX2_findBest cX2_findBest 4 none : Cond) ∈ T0 := T0_in 633 (by decide +kernel) (by decide +kernel)
theorem wm_634 : (.methodLink RX2 57 yX5_clear : Cond) ∈ T0 := T0_in 634 (by decide +kernel) (by decide +kernel)
theorem wm_635 : (.methodLink RX2 65 yX5_rows : Cond) ∈ T0 := T0_in 635 (by decide +kernel) (by decide +kernel)
theorem wm_636 : (.methodLink RX2 69 yX5_add : Cond) ∈ T0 := T0_in 636 (by decide +kernel) (by decide +kernel)
theorem wm_637 : (.constant RX2 79 (1000000) : Cond) ∈ T0 := T0_in 637 (by decide +kernel) (by decide +kernel)
theorem wm_638 : (.methodLink RX2 80 yX2_tryFrom : Cond) ∈ T0 := T0_in 638 (by decide +kernel) (by decide +kernel)
theorem wm_640 : (.instanceMethod yX2_tryFrom : Cond) ∈ T0 := T0_in 640 (by decide +kernel) (by decide +kernel)
theorem wm_641 : (.code yX2_tryFrom cX2_tryFrom 8 none : Cond) ∈ T0 := T0_in 641 (by decide +kernel) (by decide +kernel)
theorem wm_642 : (.methodLink RX2 84 Lib.Math.max.name : Cond) ∈ T0 := T0_in 642 (by decide +kernel) (by decide +kernel)
theorem wm_643 : (.constantLong RX2 89 (1000) : Cond) ∈ T0 := T0_in 643 (by decide +kernel) (by decide +kernel)
theorem wm_644 : (.methodLink RX2 91 yX5_become : Cond) ∈ T0 := T0_in 644 (by decide +kernel) (by decide +kernel)
theorem wm_645 : (.methodLink RX2 95 yX2_tryPoints : Cond) ∈ T0 := T0_in 645 (by decide +kernel) (by decide +kernel)
theorem wm_647 : (.instanceMethod yX2_tryPoints : Cond) ∈ T0 := T0_in 647 (by decide +kernel) (by decide +kernel)
theorem wm_648 : (.code yX2_tryPoints cX2_tryPoints 8 none : Cond) ∈ T0 := T0_in 648 (by decide +kernel) (by decide +kernel)
theorem wm_649 : (.methodLink RX2 48 yX5_get : Cond) ∈ T0 := T0_in 649 (by decide +kernel) (by decide +kernel)
theorem wm_650 : (.methodLink RX2 99 yX5_set : Cond) ∈ T0 := T0_in 650 (by decide +kernel) (by decide +kernel)
theorem wm_651 : (.methodLink RX2 103 yX6_comeThrough : Cond) ∈ T0 := T0_in 651 (by decide +kernel) (by decide +kernel)
theorem wm_652 : (.methodLink RX7 238 yX2_howMuch : Cond) ∈ T0 := T0_in 652 (by decide +kernel) (by decide +kernel)
theorem wm_653 : (.instanceMethod yX2_howMuch : Cond) ∈ T0 := T0_in 653 (by decide +kernel) (by decide +kernel)
theorem wm_654 : (.selects RX2 yX2_howMuch yX2_howMuch : Cond) ∈ T0 := T0_in 654 (by decide +kernel) (by decide +kernel)
theorem wm_655 : (.code yX2_howMuch cX2_howMuch 1 (some .int) : Cond) ∈ T0 := T0_in 655 (by decide +kernel) (by decide +kernel)
theorem wm_656 : (.methodLink RX7 241 yX2_pointsIn : Cond) ∈ T0 := T0_in 656 (by decide +kernel) (by decide +kernel)
theorem wm_657 : (.instanceMethod yX2_pointsIn : Cond) ∈ T0 := T0_in 657 (by decide +kernel) (by decide +kernel)
theorem wm_658 : (.selects RX2 yX2_pointsIn yX2_pointsIn : Cond) ∈ T0 := T0_in 658 (by decide +kernel) (by decide +kernel)
theorem wm_659 : (.code yX2_pointsIn cX2_pointsIn 2 (some .int) : Cond) ∈ T0 := T0_in 659 (by decide +kernel) (by decide +kernel)
theorem wm_660 : (.methodLink RX2 44 yX5_has : Cond) ∈ T0 := T0_in 660 (by decide +kernel) (by decide +kernel)
theorem wm_661 : (.methodLink RL 94 yX7_belief : Cond) ∈ T0 := T0_in 661 (by decide +kernel) (by decide +kernel)
theorem wm_662 : (.instanceMethod yX7_belief : Cond) ∈ T0 := T0_in 662 (by decide +kernel) (by decide +kernel)
theorem wm_663 : (.selects RX7 yX7_belief yX7_belief : Cond) ∈ T0 := T0_in 663 (by decide +kernel) (by decide +kernel)
theorem wm_664 : (.code yX7_belief cX7_belief 3 (some .int) : Cond) ∈ T0 := T0_in 664 (by decide +kernel) (by decide +kernel)
theorem wm_665 : (.methodLink RL 98 yX7_need : Cond) ∈ T0 := T0_in 665 (by decide +kernel) (by decide +kernel)
theorem wm_666 : (.instanceMethod yX7_need : Cond) ∈ T0 := T0_in 666 (by decide +kernel) (by decide +kernel)
theorem wm_667 : (.selects RX7 yX7_need yX7_need : Cond) ∈ T0 := T0_in 667 (by decide +kernel) (by decide +kernel)
theorem wm_668 : (.code yX7_need cX7_need 5 (some .int) : Cond) ∈ T0 := T0_in 668 (by decide +kernel) (by decide +kernel)
theorem wm_669 : (.methodLink RX7 244 yX7_cheapestLender : Cond) ∈ T0 := T0_in 669 (by decide +kernel) (by decide +kernel)
theorem wm_671 : (.instanceMethod yX7_cheapestLender : Cond) ∈ T0 := T0_in 671 (by decide +kernel) (by decide +kernel)
theorem wm_672 : (.code yX7_cheapestLender cX7_cheapestLender 5 (some .int) : Cond) ∈ T0 := T0_in 672 (by decide +kernel) (by decide +kernel)
theorem wm_673 : (.methodLink RL 102 yX7_tell : Cond) ∈ T0 := T0_in 673 (by decide +kernel) (by decide +kernel)
theorem wm_674 : (.instanceMethod yX7_tell : Cond) ∈ T0 := T0_in 674 (by decide +kernel) (by decide +kernel)
theorem wm_675 : (.selects RX7 yX7_tell yX7_tell : Cond) ∈ T0 := T0_in 675 (by decide +kernel) (by decide +kernel)
theorem wm_676 : (.code yX7_tell cX7_tell 4 (some .int) : Cond) ∈ T0 := T0_in 676 (by decide +kernel) (by decide +kernel)
theorem wm_677 : (.methodLink RL 106 yX7_worth : Cond) ∈ T0 := T0_in 677 (by decide +kernel) (by decide +kernel)
theorem wm_678 : (.instanceMethod yX7_worth : Cond) ∈ T0 := T0_in 678 (by decide +kernel) (by decide +kernel)
theorem wm_679 : (.selects RX7 yX7_worth yX7_worth : Cond) ∈ T0 := T0_in 679 (by decide +kernel) (by decide +kernel)
theorem wm_680 : (.code yX7_worth cX7_worth 5 (some .int) : Cond) ∈ T0 := T0_in 680 (by decide +kernel) (by decide +kernel)
theorem wm_681 : (.methodLink RX7 247 yX7_leastWorthFor : Cond) ∈ T0 := T0_in 681 (by decide +kernel) (by decide +kernel)
theorem wm_683 : (.instanceMethod yX7_leastWorthFor : Cond) ∈ T0 := T0_in 683 (by decide +kernel) (by decide +kernel)
theorem wm_684 : (.code yX7_leastWorthFor cX7_leastWorthFor 2 (some .int) : Cond) ∈ T0 := T0_in 684 (by decide +kernel) (by decide +kernel)
theorem wm_685 : (.methodLink RX7 287 yX7_canBeSo : Cond) ∈ T0 := T0_in 685 (by decide +kernel) (by decide +kernel)
theorem wm_687 : (.instanceMethod yX7_canBeSo : Cond) ∈ T0 := T0_in 687 (by decide +kernel) (by decide +kernel)
theorem wm_688 : (.code yX7_canBeSo cX7_canBeSo 5 (some .boolean) : Cond) ∈ T0 := T0_in 688 (by decide +kernel) (by decide +kernel)
theorem wm_689 : (.methodLink RX7 284 yX7_isFreightTold : Cond) ∈ T0 := T0_in 689 (by decide +kernel) (by decide +kernel)
theorem wm_691 : (.instanceMethod yX7_isFreightTold : Cond) ∈ T0 := T0_in 691 (by decide +kernel) (by decide +kernel)
theorem wm_692 : (.code yX7_isFreightTold cX7_isFreightTold 2 (some .boolean) : Cond) ∈ T0 := T0_in 692 (by decide +kernel) (by decide +kernel)
theorem wm_693 : (.methodLink RX7 290 yX7_worthJustFor : Cond) ∈ T0 := T0_in 693 (by decide +kernel) (by decide +kernel)
theorem wm_695 : (.instanceMethod yX7_worthJustFor : Cond) ∈ T0 := T0_in 695 (by decide +kernel) (by decide +kernel)
theorem wm_696 : (.code yX7_worthJustFor cX7_worthJustFor 4 (some .int) : Cond) ∈ T0 := T0_in 696 (by decide +kernel) (by decide +kernel)
theorem wm_697 : (.methodLink RX7 250 yX7_greatestWorthFor : Cond) ∈ T0 := T0_in 697 (by decide +kernel) (by decide +kernel)
theorem wm_699 : (.instanceMethod yX7_greatestWorthFor : Cond) ∈ T0 := T0_in 699 (by decide +kernel) (by decide +kernel)
theorem wm_700 : (.code yX7_greatestWorthFor cX7_greatestWorthFor 3 (some .int) : Cond) ∈ T0 := T0_in 700 (by decide +kernel) (by decide +kernel)
theorem wm_701 : (.methodLink RX7 253 Lib.Math.min.name : Cond) ∈ T0 := T0_in 701 (by decide +kernel) (by decide +kernel)
theorem wm_702 : (.methodLink RL 110 yX7_write : Cond) ∈ T0 := T0_in 702 (by decide +kernel) (by decide +kernel)
theorem wm_703 : (.instanceMethod yX7_write : Cond) ∈ T0 := T0_in 703 (by decide +kernel) (by decide +kernel)
theorem wm_704 : (.selects RX7 yX7_write yX7_write : Cond) ∈ T0 := T0_in 704 (by decide +kernel) (by decide +kernel)
theorem wm_705 : (.code yX7_write cX7_write 2 (some .int) : Cond) ∈ T0 := T0_in 705 (by decide +kernel) (by decide +kernel)
theorem wm_706 : (.methodLink RL 114 yX7_tear : Cond) ∈ T0 := T0_in 706 (by decide +kernel) (by decide +kernel)
theorem wm_707 : (.instanceMethod yX7_tear : Cond) ∈ T0 := T0_in 707 (by decide +kernel) (by decide +kernel)
theorem wm_708 : (.selects RX7 yX7_tear yX7_tear : Cond) ∈ T0 := T0_in 708 (by decide +kernel) (by decide +kernel)
theorem wm_709 : (.code yX7_tear cX7_tear 2 (some .int) : Cond) ∈ T0 := T0_in 709 (by decide +kernel) (by decide +kernel)
theorem wm_710 : (.methodLink RL 118 yX7_judge : Cond) ∈ T0 := T0_in 710 (by decide +kernel) (by decide +kernel)
theorem wm_711 : (.instanceMethod yX7_judge : Cond) ∈ T0 := T0_in 711 (by decide +kernel) (by decide +kernel)
theorem wm_712 : (.selects RX7 yX7_judge yX7_judge : Cond) ∈ T0 := T0_in 712 (by decide +kernel) (by decide +kernel)
theorem wm_713 : (.code yX7_judge cX7_judge 2 (some .int) : Cond) ∈ T0 := T0_in 713 (by decide +kernel) (by decide +kernel)
theorem wm_714 : (.methodLink RL 122 yX7_seed : Cond) ∈ T0 := T0_in 714 (by decide +kernel) (by decide +kernel)
theorem wm_715 : (.instanceMethod yX7_seed : Cond) ∈ T0 := T0_in 715 (by decide +kernel) (by decide +kernel)
theorem wm_716 : (.selects RX7 yX7_seed yX7_seed : Cond) ∈ T0 := T0_in 716 (by decide +kernel) (by decide +kernel)
theorem wm_717 : (.code yX7_seed cX7_seed 3 (some .int) : Cond) ∈ T0 := T0_in 717 (by decide +kernel) (by decide +kernel)
theorem wm_718 : (.methodLink RL 126 yX7_keep : Cond) ∈ T0 := T0_in 718 (by decide +kernel) (by decide +kernel)
theorem wm_719 : (.instanceMethod yX7_keep : Cond) ∈ T0 := T0_in 719 (by decide +kernel) (by decide +kernel)
theorem wm_720 : (.selects RX7 yX7_keep yX7_keep : Cond) ∈ T0 := T0_in 720 (by decide +kernel) (by decide +kernel)
theorem wm_721 : (.code yX7_keep cX7_keep 3 (some .int) : Cond) ∈ T0 := T0_in 721 (by decide +kernel) (by decide +kernel)
theorem wm_722 : (.methodLink RX7 256 yX7_imageOf : Cond) ∈ T0 := T0_in 722 (by decide +kernel) (by decide +kernel)
theorem wm_724 : (.instanceMethod yX7_imageOf : Cond) ∈ T0 := T0_in 724 (by decide +kernel) (by decide +kernel)
theorem wm_725 : (.code yX7_imageOf cX7_imageOf 2 (some (.object "BottomryLoans$Image")) : Cond) ∈ T0 := T0_in 725 (by decide +kernel) (by decide +kernel)
theorem wm_726 : (.methodLink RX7 262 yX4_become : Cond) ∈ T0 := T0_in 726 (by decide +kernel) (by decide +kernel)
theorem wm_727 : (.methodLink RL 130 yX7_goBack : Cond) ∈ T0 := T0_in 727 (by decide +kernel) (by decide +kernel)
theorem wm_728 : (.instanceMethod yX7_goBack : Cond) ∈ T0 := T0_in 728 (by decide +kernel) (by decide +kernel)
theorem wm_729 : (.selects RX7 yX7_goBack yX7_goBack : Cond) ∈ T0 := T0_in 729 (by decide +kernel) (by decide +kernel)
theorem wm_730 : (.code yX7_goBack cX7_goBack 3 (some .int) : Cond) ∈ T0 := T0_in 730 (by decide +kernel) (by decide +kernel)
theorem wm_731 : (.classLink RL 10 RX8 : Cond) ∈ T0 := T0_in 731 (by decide +kernel) (by decide +kernel)
theorem wm_732 : (.instantiable RX8 36 : Cond) ∈ T0 := T0_in 732 (by decide +kernel) (by decide +kernel)
theorem wm_733 : (.methodLink RL 12 yX8_init : Cond) ∈ T0 := T0_in 733 (by decide +kernel) (by decide +kernel)
theorem wm_734 : (.instanceMethod yX8_init : Cond) ∈ T0 := T0_in 734 (by decide +kernel) (by decide +kernel)
theorem wm_735 : (.code yX8_init cX8_init 1 none : Cond) ∈ T0 := T0_in 735 (by decide +kernel) (by decide +kernel)
theorem wm_736 : (.methodLink RX8 1 objectInit : Cond) ∈ T0 := T0_in 736 (by decide +kernel) (by decide +kernel)
theorem wm_737 : (.fieldLink RX8 7 "BottomryLoansModel" "w" "[I" : Cond) ∈ T0 := T0_in 737 (by decide +kernel) (by decide +kernel)
theorem wm_738 : (.fieldLink RX8 13 "BottomryLoansModel" "isKept" "[Z" : Cond) ∈ T0 := T0_in 738 (by decide +kernel) (by decide +kernel)
theorem wm_739 : (.fieldLink RX8 153 "BottomryLoansModel" "undoes" "I" : Cond) ∈ T0 := T0_in 739 (by decide +kernel) (by decide +kernel)
theorem wm_740 : (.fieldLink RX8 63 "BottomryLoansModel" "isShip" "Z" : Cond) ∈ T0 := T0_in 740 (by decide +kernel) (by decide +kernel)
theorem wm_741 : (.fieldLink RX8 141 "BottomryLoansModel" "worthOf" "I" : Cond) ∈ T0 := T0_in 741 (by decide +kernel) (by decide +kernel)
theorem wm_742 : (.fieldLink RX8 144 "BottomryLoansModel" "freightOf" "I" : Cond) ∈ T0 := T0_in 742 (by decide +kernel) (by decide +kernel)
theorem wm_743 : (.fieldLink RX8 67 "BottomryLoansModel" "legs" "I" : Cond) ∈ T0 := T0_in 743 (by decide +kernel) (by decide +kernel)
theorem wm_744 : (.fieldLink RX8 17 "BottomryLoansModel" "odds" "[I" : Cond) ∈ T0 := T0_in 744 (by decide +kernel) (by decide +kernel)
theorem wm_745 : (.fieldLink RX8 20 "BottomryLoansModel" "worse" "[I" : Cond) ∈ T0 := T0_in 745 (by decide +kernel) (by decide +kernel)
theorem wm_746 : (.fieldLink RX8 23 "BottomryLoansModel" "cost" "[I" : Cond) ∈ T0 := T0_in 746 (by decide +kernel) (by decide +kernel)
theorem wm_747 : (.fieldLink RX8 74 "BottomryLoansModel" "lenders" "I" : Cond) ∈ T0 := T0_in 747 (by decide +kernel) (by decide +kernel)
theorem wm_748 : (.fieldLink RX8 26 "BottomryLoansModel" "has" "[I" : Cond) ∈ T0 := T0_in 748 (by decide +kernel) (by decide +kernel)
theorem wm_749 : (.fieldLink RX8 29 "BottomryLoansModel" "asks" "[I" : Cond) ∈ T0 := T0_in 749 (by decide +kernel) (by decide +kernel)
theorem wm_750 : (.fieldLink RX8 32 "BottomryLoansModel" "text" "[I" : Cond) ∈ T0 := T0_in 750 (by decide +kernel) (by decide +kernel)
theorem wm_751 : (.fieldLink RX8 80 "BottomryLoansModel" "texted" "I" : Cond) ∈ T0 := T0_in 751 (by decide +kernel) (by decide +kernel)
theorem wm_752 : (.fieldLink RX8 84 "BottomryLoansModel" "at" "I" : Cond) ∈ T0 := T0_in 752 (by decide +kernel) (by decide +kernel)
theorem wm_753 : (.fieldLink RX8 91 "BottomryLoansModel" "start" "I" : Cond) ∈ T0 := T0_in 753 (by decide +kernel) (by decide +kernel)
theorem wm_754 : (.fieldLink RX8 109 "BottomryLoansModel" "number" "I" : Cond) ∈ T0 := T0_in 754 (by decide +kernel) (by decide +kernel)
theorem wm_755 : (.fieldLink RX8 94 "BottomryLoansModel" "faulty" "I" : Cond) ∈ T0 := T0_in 755 (by decide +kernel) (by decide +kernel)
theorem wm_756 : (.fieldLink RX8 35 "BottomryLoansModel" "faultAt" "I" : Cond) ∈ T0 := T0_in 756 (by decide +kernel) (by decide +kernel)
theorem wm_757 : (.fieldLink RX8 112 "BottomryLoansModel" "hasShip" "Z" : Cond) ∈ T0 := T0_in 757 (by decide +kernel) (by decide +kernel)
theorem wm_758 : (.fieldLink RX8 39 "BottomryLoansModel" "readShip" "[I" : Cond) ∈ T0 := T0_in 758 (by decide +kernel) (by decide +kernel)
theorem wm_759 : (.fieldLink RX8 118 "BottomryLoansModel" "readLegs" "I" : Cond) ∈ T0 := T0_in 759 (by decide +kernel) (by decide +kernel)
theorem wm_760 : (.fieldLink RX8 42 "BottomryLoansModel" "readLeg" "[I" : Cond) ∈ T0 := T0_in 760 (by decide +kernel) (by decide +kernel)
theorem wm_761 : (.fieldLink RX8 121 "BottomryLoansModel" "readLenders" "I" : Cond) ∈ T0 := T0_in 761 (by decide +kernel) (by decide +kernel)
theorem wm_762 : (.fieldLink RX8 45 "BottomryLoansModel" "readLender" "[I" : Cond) ∈ T0 := T0_in 762 (by decide +kernel) (by decide +kernel)
theorem wm_763 : (.fieldLink RX8 48 "BottomryLoansModel" "pays" "[I" : Cond) ∈ T0 := T0_in 763 (by decide +kernel) (by decide +kernel)
theorem wm_764 : (.fieldLink RX8 164 "BottomryLoansModel" "rest" "I" : Cond) ∈ T0 := T0_in 764 (by decide +kernel) (by decide +kernel)
theorem wm_765 : (.fieldLink RX8 51 "BottomryLoansModel" "before" "[I" : Cond) ∈ T0 := T0_in 765 (by decide +kernel) (by decide +kernel)
theorem wm_766 : (.fieldLink RX8 250 "BottomryLoansModel" "planBest" "I" : Cond) ∈ T0 := T0_in 766 (by decide +kernel) (by decide +kernel)
theorem wm_767 : (.fieldLink RX8 255 "BottomryLoansModel" "planMost" "J" : Cond) ∈ T0 := T0_in 767 (by decide +kernel) (by decide +kernel)
theorem wm_768 : (.fieldLink RX8 147 "BottomryLoansModel" "tolds" "I" : Cond) ∈ T0 := T0_in 768 (by decide +kernel) (by decide +kernel)
theorem wm_769 : (.fieldLink RX8 54 "BottomryLoansModel" "toldLoan" "[I" : Cond) ∈ T0 := T0_in 769 (by decide +kernel) (by decide +kernel)
theorem wm_770 : (.fieldLink RX8 57 "BottomryLoansModel" "toldPaid" "[I" : Cond) ∈ T0 := T0_in 770 (by decide +kernel) (by decide +kernel)
theorem wm_771 : (.fieldLink RX8 150 "BottomryLoansModel" "booked" "I" : Cond) ∈ T0 := T0_in 771 (by decide +kernel) (by decide +kernel)
theorem wm_772 : (.fieldLink RX8 60 "BottomryLoansModel" "book" "[I" : Cond) ∈ T0 := T0_in 772 (by decide +kernel) (by decide +kernel)
theorem wm_846 : (.arrayClass Jvm.ClassFile.FieldType.boolean : Cond) ∈ T0 := T0_in 846 (by decide +kernel) (by decide +kernel)
theorem wm_847 : (.methodLink RL 17 yX8_feed : Cond) ∈ T0 := T0_in 847 (by decide +kernel) (by decide +kernel)
theorem wm_848 : (.instanceMethod yX8_feed : Cond) ∈ T0 := T0_in 848 (by decide +kernel) (by decide +kernel)
theorem wm_849 : (.selects RX8 yX8_feed yX8_feed : Cond) ∈ T0 := T0_in 849 (by decide +kernel) (by decide +kernel)
theorem wm_850 : (.code yX8_feed cX8_feed 2 (some .int) : Cond) ∈ T0 := T0_in 850 (by decide +kernel) (by decide +kernel)
theorem wm_851 : (.constantLong RX8 77 (255) : Cond) ∈ T0 := T0_in 851 (by decide +kernel) (by decide +kernel)
theorem wm_852 : (.methodLink RX8 70 yX8_in : Cond) ∈ T0 := T0_in 852 (by decide +kernel) (by decide +kernel)
theorem wm_853 : (.static yX8_in : Cond) ∈ T0 := T0_in 853 (by decide +kernel) (by decide +kernel)
theorem wm_854 : (.code yX8_in cX8_in 6 (some .boolean) : Cond) ∈ T0 := T0_in 854 (by decide +kernel) (by decide +kernel)
theorem wm_855 : (.constant RX8 79 (-1000000002) : Cond) ∈ T0 := T0_in 855 (by decide +kernel) (by decide +kernel)
theorem wm_856 : (.constant RX8 83 (-1000000004) : Cond) ∈ T0 := T0_in 856 (by decide +kernel) (by decide +kernel)
theorem wm_857 : (.methodLink RL 22 yX8_voyage : Cond) ∈ T0 := T0_in 857 (by decide +kernel) (by decide +kernel)
theorem wm_858 : (.instanceMethod yX8_voyage : Cond) ∈ T0 := T0_in 858 (by decide +kernel) (by decide +kernel)
theorem wm_859 : (.selects RX8 yX8_voyage yX8_voyage : Cond) ∈ T0 := T0_in 859 (by decide +kernel) (by decide +kernel)
theorem wm_860 : (.code yX8_voyage cX8_voyage 4 (some .int) : Cond) ∈ T0 := T0_in 860 (by decide +kernel) (by decide +kernel)
theorem wm_861 : (.methodLink RX8 97 yX8_here : Cond) ∈ T0 := T0_in 861 (by decide +kernel) (by decide +kernel)
theorem wm_863 : (.instanceMethod yX8_here : Cond) ∈ T0 := T0_in 863 (by decide +kernel) (by decide +kernel)
theorem wm_864 : (.code yX8_here cX8_here 1 (some .int) : Cond) ∈ T0 := T0_in 864 (by decide +kernel) (by decide +kernel)
theorem wm_865 : (.methodLink RX8 87 yX8_letterAt : Cond) ∈ T0 := T0_in 865 (by decide +kernel) (by decide +kernel)
theorem wm_867 : (.instanceMethod yX8_letterAt : Cond) ∈ T0 := T0_in 867 (by decide +kernel) (by decide +kernel)
theorem wm_868 : (.code yX8_letterAt cX8_letterAt 2 (some .int) : Cond) ∈ T0 := T0_in 868 (by decide +kernel) (by decide +kernel)
theorem wm_869 : (.methodLink RX8 138 yX8_takesClause : Cond) ∈ T0 := T0_in 869 (by decide +kernel) (by decide +kernel)
theorem wm_871 : (.instanceMethod yX8_takesClause : Cond) ∈ T0 := T0_in 871 (by decide +kernel) (by decide +kernel)
theorem wm_872 : (.code yX8_takesClause cX8_takesClause 5 (some .boolean) : Cond) ∈ T0 := T0_in 872 (by decide +kernel) (by decide +kernel)
theorem wm_873 : (.methodLink RX8 101 yX8_fails : Cond) ∈ T0 := T0_in 873 (by decide +kernel) (by decide +kernel)
theorem wm_875 : (.instanceMethod yX8_fails : Cond) ∈ T0 := T0_in 875 (by decide +kernel) (by decide +kernel)
theorem wm_876 : (.code yX8_fails cX8_fails 3 (some .boolean) : Cond) ∈ T0 := T0_in 876 (by decide +kernel) (by decide +kernel)
theorem wm_877 : (.methodLink RX8 124 yX8_takesShip : Cond) ∈ T0 := T0_in 877 (by decide +kernel) (by decide +kernel)
theorem wm_879 : (.instanceMethod yX8_takesShip : Cond) ∈ T0 := T0_in 879 (by decide +kernel) (by decide +kernel)
theorem wm_880 : (.code yX8_takesShip cX8_takesShip 2 (some .boolean) : Cond) ∈ T0 := T0_in 880 (by decide +kernel) (by decide +kernel)
theorem wm_881 : (.methodLink RX8 115 yX8_takesNumber : Cond) ∈ T0 := T0_in 881 (by decide +kernel) (by decide +kernel)
theorem wm_883 : (.instanceMethod yX8_takesNumber : Cond) ∈ T0 := T0_in 883 (by decide +kernel) (by decide +kernel)
theorem wm_884 : (.code yX8_takesNumber cX8_takesNumber 3 (some .boolean) : Cond) ∈ T0 := T0_in 884 (by decide +kernel) (by decide +kernel)
theorem wm_885 : (.constantLong RX8 105 (48) : Cond) ∈ T0 := T0_in 885 (by decide +kernel) (by decide +kernel)
theorem wm_886 : (.constantLong RX8 107 (57) : Cond) ∈ T0 := T0_in 886 (by decide +kernel) (by decide +kernel)
theorem wm_887 : (.methodLink RX8 128 yX8_takesLeg : Cond) ∈ T0 := T0_in 887 (by decide +kernel) (by decide +kernel)
theorem wm_889 : (.instanceMethod yX8_takesLeg : Cond) ∈ T0 := T0_in 889 (by decide +kernel) (by decide +kernel)
theorem wm_890 : (.code yX8_takesLeg cX8_takesLeg 2 (some .boolean) : Cond) ∈ T0 := T0_in 890 (by decide +kernel) (by decide +kernel)
theorem wm_891 : (.methodLink RX8 131 yX8_takesLender : Cond) ∈ T0 := T0_in 891 (by decide +kernel) (by decide +kernel)
theorem wm_893 : (.instanceMethod yX8_takesLender : Cond) ∈ T0 := T0_in 893 (by decide +kernel) (by decide +kernel)
theorem wm_894 : (.code yX8_takesLender cX8_takesLender 2 (some .boolean) : Cond) ∈ T0 := T0_in 894 (by decide +kernel) (by decide +kernel)
theorem wm_895 : (.methodLink RX8 134 yX8_takes : Cond) ∈ T0 := T0_in 895 (by decide +kernel) (by decide +kernel)
theorem wm_897 : (.instanceMethod yX8_takes : Cond) ∈ T0 := T0_in 897 (by decide +kernel) (by decide +kernel)
theorem wm_898 : (.code yX8_takes cX8_takes 2 (some .boolean) : Cond) ∈ T0 := T0_in 898 (by decide +kernel) (by decide +kernel)
theorem wm_899 : (.methodLink RL 26 yX8_fault : Cond) ∈ T0 := T0_in 899 (by decide +kernel) (by decide +kernel)
theorem wm_900 : (.instanceMethod yX8_fault : Cond) ∈ T0 := T0_in 900 (by decide +kernel) (by decide +kernel)
theorem wm_901 : (.selects RX8 yX8_fault yX8_fault : Cond) ∈ T0 := T0_in 901 (by decide +kernel) (by decide +kernel)
theorem wm_902 : (.code yX8_fault cX8_fault 1 (some .int) : Cond) ∈ T0 := T0_in 902 (by decide +kernel) (by decide +kernel)
theorem wm_903 : (.methodLink RL 30 yX8_told : Cond) ∈ T0 := T0_in 903 (by decide +kernel) (by decide +kernel)
theorem wm_904 : (.instanceMethod yX8_told : Cond) ∈ T0 := T0_in 904 (by decide +kernel) (by decide +kernel)
theorem wm_905 : (.selects RX8 yX8_told yX8_told : Cond) ∈ T0 := T0_in 905 (by decide +kernel) (by decide +kernel)
theorem wm_906 : (.code yX8_told cX8_told 2 (some .int) : Cond) ∈ T0 := T0_in 906 (by decide +kernel) (by decide +kernel)
theorem wm_907 : (.methodLink RX8 171 yX8_where : Cond) ∈ T0 := T0_in 907 (by decide +kernel) (by decide +kernel)
theorem wm_909 : (.instanceMethod yX8_where : Cond) ∈ T0 := T0_in 909 (by decide +kernel) (by decide +kernel)
theorem wm_910 : (.code yX8_where cX8_where 1 (some .int) : Cond) ∈ T0 := T0_in 910 (by decide +kernel) (by decide +kernel)
theorem wm_911 : (.methodLink RX8 174 yX8_owed : Cond) ∈ T0 := T0_in 911 (by decide +kernel) (by decide +kernel)
theorem wm_913 : (.instanceMethod yX8_owed : Cond) ∈ T0 := T0_in 913 (by decide +kernel) (by decide +kernel)
theorem wm_914 : (.code yX8_owed cX8_owed 3 (some .int) : Cond) ∈ T0 := T0_in 914 (by decide +kernel) (by decide +kernel)
theorem wm_915 : (.methodLink RX8 156 yX8_dueOf : Cond) ∈ T0 := T0_in 915 (by decide +kernel) (by decide +kernel)
theorem wm_917 : (.instanceMethod yX8_dueOf : Cond) ∈ T0 := T0_in 917 (by decide +kernel) (by decide +kernel)
theorem wm_918 : (.code yX8_dueOf cX8_dueOf 4 (some .int) : Cond) ∈ T0 := T0_in 918 (by decide +kernel) (by decide +kernel)
theorem wm_919 : (.methodLink RX8 177 yX8_leftNow : Cond) ∈ T0 := T0_in 919 (by decide +kernel) (by decide +kernel)
theorem wm_921 : (.instanceMethod yX8_leftNow : Cond) ∈ T0 := T0_in 921 (by decide +kernel) (by decide +kernel)
theorem wm_922 : (.code yX8_leftNow cX8_leftNow 1 (some .int) : Cond) ∈ T0 := T0_in 922 (by decide +kernel) (by decide +kernel)
theorem wm_923 : (.methodLink RX8 167 yX8_paysHome : Cond) ∈ T0 := T0_in 923 (by decide +kernel) (by decide +kernel)
theorem wm_925 : (.instanceMethod yX8_paysHome : Cond) ∈ T0 := T0_in 925 (by decide +kernel) (by decide +kernel)
theorem wm_926 : (.code yX8_paysHome cX8_paysHome 4 none : Cond) ∈ T0 := T0_in 926 (by decide +kernel) (by decide +kernel)
theorem wm_927 : (.methodLink RX8 160 yX8_paysOf : Cond) ∈ T0 := T0_in 927 (by decide +kernel) (by decide +kernel)
theorem wm_929 : (.instanceMethod yX8_paysOf : Cond) ∈ T0 := T0_in 929 (by decide +kernel) (by decide +kernel)
theorem wm_930 : (.code yX8_paysOf cX8_paysOf 7 (some .int) : Cond) ∈ T0 := T0_in 930 (by decide +kernel) (by decide +kernel)
theorem wm_931 : (.methodLink RL 35 yX8_leg : Cond) ∈ T0 := T0_in 931 (by decide +kernel) (by decide +kernel)
theorem wm_932 : (.instanceMethod yX8_leg : Cond) ∈ T0 := T0_in 932 (by decide +kernel) (by decide +kernel)
theorem wm_933 : (.selects RX8 yX8_leg yX8_leg : Cond) ∈ T0 := T0_in 933 (by decide +kernel) (by decide +kernel)
theorem wm_934 : (.code yX8_leg cX8_leg 3 (some .int) : Cond) ∈ T0 := T0_in 934 (by decide +kernel) (by decide +kernel)
theorem wm_935 : (.methodLink RX8 180 yX8_isLeg : Cond) ∈ T0 := T0_in 935 (by decide +kernel) (by decide +kernel)
theorem wm_937 : (.instanceMethod yX8_isLeg : Cond) ∈ T0 := T0_in 937 (by decide +kernel) (by decide +kernel)
theorem wm_938 : (.code yX8_isLeg cX8_isLeg 2 (some .boolean) : Cond) ∈ T0 := T0_in 938 (by decide +kernel) (by decide +kernel)
theorem wm_939 : (.constant RX8 183 (-1000000001) : Cond) ∈ T0 := T0_in 939 (by decide +kernel) (by decide +kernel)
theorem wm_940 : (.methodLink RX8 184 yX8_oddsOf : Cond) ∈ T0 := T0_in 940 (by decide +kernel) (by decide +kernel)
theorem wm_942 : (.instanceMethod yX8_oddsOf : Cond) ∈ T0 := T0_in 942 (by decide +kernel) (by decide +kernel)
theorem wm_943 : (.code yX8_oddsOf cX8_oddsOf 4 (some .int) : Cond) ∈ T0 := T0_in 943 (by decide +kernel) (by decide +kernel)
theorem wm_944 : (.methodLink RL 39 yX8_lender : Cond) ∈ T0 := T0_in 944 (by decide +kernel) (by decide +kernel)
theorem wm_945 : (.instanceMethod yX8_lender : Cond) ∈ T0 := T0_in 945 (by decide +kernel) (by decide +kernel)
theorem wm_946 : (.selects RX8 yX8_lender yX8_lender : Cond) ∈ T0 := T0_in 946 (by decide +kernel) (by decide +kernel)
theorem wm_947 : (.code yX8_lender cX8_lender 3 (some .int) : Cond) ∈ T0 := T0_in 947 (by decide +kernel) (by decide +kernel)
theorem wm_948 : (.methodLink RX8 187 yX8_isLender : Cond) ∈ T0 := T0_in 948 (by decide +kernel) (by decide +kernel)
theorem wm_950 : (.instanceMethod yX8_isLender : Cond) ∈ T0 := T0_in 950 (by decide +kernel) (by decide +kernel)
theorem wm_951 : (.code yX8_isLender cX8_isLender 2 (some .boolean) : Cond) ∈ T0 := T0_in 951 (by decide +kernel) (by decide +kernel)
theorem wm_952 : (.methodLink RX8 190 yX8_yetOf : Cond) ∈ T0 := T0_in 952 (by decide +kernel) (by decide +kernel)
theorem wm_954 : (.instanceMethod yX8_yetOf : Cond) ∈ T0 := T0_in 954 (by decide +kernel) (by decide +kernel)
theorem wm_955 : (.code yX8_yetOf cX8_yetOf 4 (some .int) : Cond) ∈ T0 := T0_in 955 (by decide +kernel) (by decide +kernel)
theorem wm_956 : (.methodLink RL 43 yX8_loan : Cond) ∈ T0 := T0_in 956 (by decide +kernel) (by decide +kernel)
theorem wm_957 : (.instanceMethod yX8_loan : Cond) ∈ T0 := T0_in 957 (by decide +kernel) (by decide +kernel)
theorem wm_958 : (.selects RX8 yX8_loan yX8_loan : Cond) ∈ T0 := T0_in 958 (by decide +kernel) (by decide +kernel)
theorem wm_959 : (.code yX8_loan cX8_loan 3 (some .int) : Cond) ∈ T0 := T0_in 959 (by decide +kernel) (by decide +kernel)
theorem wm_960 : (.methodLink RX8 193 yX8_isLoan : Cond) ∈ T0 := T0_in 960 (by decide +kernel) (by decide +kernel)
theorem wm_962 : (.instanceMethod yX8_isLoan : Cond) ∈ T0 := T0_in 962 (by decide +kernel) (by decide +kernel)
theorem wm_963 : (.code yX8_isLoan cX8_isLoan 2 (some .boolean) : Cond) ∈ T0 := T0_in 963 (by decide +kernel) (by decide +kernel)
theorem wm_964 : (.methodLink RX8 196 yX8_rankOf : Cond) ∈ T0 := T0_in 964 (by decide +kernel) (by decide +kernel)
theorem wm_966 : (.instanceMethod yX8_rankOf : Cond) ∈ T0 := T0_in 966 (by decide +kernel) (by decide +kernel)
theorem wm_967 : (.code yX8_rankOf cX8_rankOf 5 (some .int) : Cond) ∈ T0 := T0_in 967 (by decide +kernel) (by decide +kernel)
theorem wm_968 : (.methodLink RL 65 yX8_undo : Cond) ∈ T0 := T0_in 968 (by decide +kernel) (by decide +kernel)
theorem wm_969 : (.instanceMethod yX8_undo : Cond) ∈ T0 := T0_in 969 (by decide +kernel) (by decide +kernel)
theorem wm_970 : (.selects RX8 yX8_undo yX8_undo : Cond) ∈ T0 := T0_in 970 (by decide +kernel) (by decide +kernel)
theorem wm_971 : (.code yX8_undo cX8_undo 2 (some .int) : Cond) ∈ T0 := T0_in 971 (by decide +kernel) (by decide +kernel)
theorem wm_972 : (.constant RX8 202 (-1000000003) : Cond) ∈ T0 := T0_in 972 (by decide +kernel) (by decide +kernel)
theorem wm_973 : (.methodLink RX8 199 yX8_copy : Cond) ∈ T0 := T0_in 973 (by decide +kernel) (by decide +kernel)
theorem wm_975 : (.instanceMethod yX8_copy : Cond) ∈ T0 := T0_in 975 (by decide +kernel) (by decide +kernel)
theorem wm_976 : (.code yX8_copy cX8_copy 4 none : Cond) ∈ T0 := T0_in 976 (by decide +kernel) (by decide +kernel)
theorem wm_977 : (.methodLink RL 48 yX8_borrow : Cond) ∈ T0 := T0_in 977 (by decide +kernel) (by decide +kernel)
theorem wm_978 : (.instanceMethod yX8_borrow : Cond) ∈ T0 := T0_in 978 (by decide +kernel) (by decide +kernel)
theorem wm_979 : (.selects RX8 yX8_borrow yX8_borrow : Cond) ∈ T0 := T0_in 979 (by decide +kernel) (by decide +kernel)
theorem wm_980 : (.code yX8_borrow cX8_borrow 4 (some .int) : Cond) ∈ T0 := T0_in 980 (by decide +kernel) (by decide +kernel)
theorem wm_981 : (.constantLong RX8 203 (999) : Cond) ∈ T0 := T0_in 981 (by decide +kernel) (by decide +kernel)
theorem wm_982 : (.methodLink RX8 205 yX8_minds : Cond) ∈ T0 := T0_in 982 (by decide +kernel) (by decide +kernel)
theorem wm_984 : (.instanceMethod yX8_minds : Cond) ∈ T0 := T0_in 984 (by decide +kernel) (by decide +kernel)
theorem wm_985 : (.code yX8_minds cX8_minds 2 none : Cond) ∈ T0 := T0_in 985 (by decide +kernel) (by decide +kernel)
theorem wm_986 : (.methodLink RX8 208 yX8_takesLoan : Cond) ∈ T0 := T0_in 986 (by decide +kernel) (by decide +kernel)
theorem wm_988 : (.instanceMethod yX8_takesLoan : Cond) ∈ T0 := T0_in 988 (by decide +kernel) (by decide +kernel)
theorem wm_989 : (.code yX8_takesLoan cX8_takesLoan 6 none : Cond) ∈ T0 := T0_in 989 (by decide +kernel) (by decide +kernel)
theorem wm_990 : (.methodLink RL 52 yX8_repair : Cond) ∈ T0 := T0_in 990 (by decide +kernel) (by decide +kernel)
theorem wm_991 : (.instanceMethod yX8_repair : Cond) ∈ T0 := T0_in 991 (by decide +kernel) (by decide +kernel)
theorem wm_992 : (.selects RX8 yX8_repair yX8_repair : Cond) ∈ T0 := T0_in 992 (by decide +kernel) (by decide +kernel)
theorem wm_993 : (.code yX8_repair cX8_repair 2 (some .int) : Cond) ∈ T0 := T0_in 993 (by decide +kernel) (by decide +kernel)
theorem wm_994 : (.constantLong RX8 212 (9) : Cond) ∈ T0 := T0_in 994 (by decide +kernel) (by decide +kernel)
theorem wm_995 : (.methodLink RL 57 yX8_sail : Cond) ∈ T0 := T0_in 995 (by decide +kernel) (by decide +kernel)
theorem wm_996 : (.instanceMethod yX8_sail : Cond) ∈ T0 := T0_in 996 (by decide +kernel) (by decide +kernel)
theorem wm_997 : (.selects RX8 yX8_sail yX8_sail : Cond) ∈ T0 := T0_in 997 (by decide +kernel) (by decide +kernel)
theorem wm_998 : (.code yX8_sail cX8_sail 2 (some .int) : Cond) ∈ T0 := T0_in 998 (by decide +kernel) (by decide +kernel)
theorem wm_999 : (.methodLink RX8 214 yX8_sails : Cond) ∈ T0 := T0_in 999 (by decide +kernel) (by decide +kernel)
theorem wm_1001 : (.instanceMethod yX8_sails : Cond) ∈ T0 := T0_in 1001 (by decide +kernel) (by decide +kernel)
theorem wm_1002 : (.code yX8_sails cX8_sails 2 none : Cond) ∈ T0 := T0_in 1002 (by decide +kernel) (by decide +kernel)
theorem wm_1003 : (.methodLink RL 61 yX8_drift : Cond) ∈ T0 := T0_in 1003 (by decide +kernel) (by decide +kernel)
theorem wm_1004 : (.instanceMethod yX8_drift : Cond) ∈ T0 := T0_in 1004 (by decide +kernel) (by decide +kernel)
theorem wm_1005 : (.selects RX8 yX8_drift yX8_drift : Cond) ∈ T0 := T0_in 1005 (by decide +kernel) (by decide +kernel)
theorem wm_1006 : (.code yX8_drift cX8_drift 4 (some .int) : Cond) ∈ T0 := T0_in 1006 (by decide +kernel) (by decide +kernel)
theorem wm_1007 : (.constantLong RX8 225 (7) : Cond) ∈ T0 := T0_in 1007 (by decide +kernel) (by decide +kernel)
theorem wm_1008 : (.methodLink RX8 227 yX8_draw : Cond) ∈ T0 := T0_in 1008 (by decide +kernel) (by decide +kernel)
theorem wm_1010 : (.instanceMethod yX8_draw : Cond) ∈ T0 := T0_in 1010 (by decide +kernel) (by decide +kernel)
theorem wm_1011 : (.code yX8_draw cX8_draw 2 (some .int) : Cond) ∈ T0 := T0_in 1011 (by decide +kernel) (by decide +kernel)
theorem wm_1012 : (.constantLong RX8 218 (1103515245) : Cond) ∈ T0 := T0_in 1012 (by decide +kernel) (by decide +kernel)
theorem wm_1013 : (.constantLong RX8 220 (12345) : Cond) ∈ T0 := T0_in 1013 (by decide +kernel) (by decide +kernel)
theorem wm_1014 : (.constantLong RX8 222 (2147483648) : Cond) ∈ T0 := T0_in 1014 (by decide +kernel) (by decide +kernel)
theorem wm_1015 : (.constant RX8 224 (65536) : Cond) ∈ T0 := T0_in 1015 (by decide +kernel) (by decide +kernel)
theorem wm_1016 : (.methodLink RL 69 yX8_comesHome : Cond) ∈ T0 := T0_in 1016 (by decide +kernel) (by decide +kernel)
theorem wm_1017 : (.instanceMethod yX8_comesHome : Cond) ∈ T0 := T0_in 1017 (by decide +kernel) (by decide +kernel)
theorem wm_1018 : (.selects RX8 yX8_comesHome yX8_comesHome : Cond) ∈ T0 := T0_in 1018 (by decide +kernel) (by decide +kernel)
theorem wm_1019 : (.code yX8_comesHome cX8_comesHome 1 (some .int) : Cond) ∈ T0 := T0_in 1019 (by decide +kernel) (by decide +kernel)
theorem wm_1020 : (.methodLink RX8 238 yX8_isGone : Cond) ∈ T0 := T0_in 1020 (by decide +kernel) (by decide +kernel)
theorem wm_1022 : (.instanceMethod yX8_isGone : Cond) ∈ T0 := T0_in 1022 (by decide +kernel) (by decide +kernel)
theorem wm_1023 : (.code yX8_isGone cX8_isGone 1 (some .boolean) : Cond) ∈ T0 := T0_in 1023 (by decide +kernel) (by decide +kernel)
theorem wm_1024 : (.methodLink RX8 241 yX8_homeNow : Cond) ∈ T0 := T0_in 1024 (by decide +kernel) (by decide +kernel)
theorem wm_1026 : (.instanceMethod yX8_homeNow : Cond) ∈ T0 := T0_in 1026 (by decide +kernel) (by decide +kernel)
theorem wm_1027 : (.code yX8_homeNow cX8_homeNow 1 (some .long) : Cond) ∈ T0 := T0_in 1027 (by decide +kernel) (by decide +kernel)
theorem wm_1028 : (.methodLink RX8 234 yX8_through : Cond) ∈ T0 := T0_in 1028 (by decide +kernel) (by decide +kernel)
theorem wm_1030 : (.instanceMethod yX8_through : Cond) ∈ T0 := T0_in 1030 (by decide +kernel) (by decide +kernel)
theorem wm_1031 : (.code yX8_through cX8_through 8 (some .long) : Cond) ∈ T0 := T0_in 1031 (by decide +kernel) (by decide +kernel)
theorem wm_1032 : (.constantLong RX8 230 (1000000) : Cond) ∈ T0 := T0_in 1032 (by decide +kernel) (by decide +kernel)
theorem wm_1033 : (.constantLong RX8 232 (100) : Cond) ∈ T0 := T0_in 1033 (by decide +kernel) (by decide +kernel)
theorem wm_1034 : (.methodLink RL 73 yX8_rate : Cond) ∈ T0 := T0_in 1034 (by decide +kernel) (by decide +kernel)
theorem wm_1035 : (.instanceMethod yX8_rate : Cond) ∈ T0 := T0_in 1035 (by decide +kernel) (by decide +kernel)
theorem wm_1036 : (.selects RX8 yX8_rate yX8_rate : Cond) ∈ T0 := T0_in 1036 (by decide +kernel) (by decide +kernel)
theorem wm_1037 : (.code yX8_rate cX8_rate 1 (some .int) : Cond) ∈ T0 := T0_in 1037 (by decide +kernel) (by decide +kernel)
theorem wm_1038 : (.methodLink RX8 247 yX8_rateNow : Cond) ∈ T0 := T0_in 1038 (by decide +kernel) (by decide +kernel)
theorem wm_1040 : (.instanceMethod yX8_rateNow : Cond) ∈ T0 := T0_in 1040 (by decide +kernel) (by decide +kernel)
theorem wm_1041 : (.code yX8_rateNow cX8_rateNow 4 (some .int) : Cond) ∈ T0 := T0_in 1041 (by decide +kernel) (by decide +kernel)
theorem wm_1042 : (.constantLong RX8 245 (100000000) : Cond) ∈ T0 := T0_in 1042 (by decide +kernel) (by decide +kernel)
theorem wm_1043 : (.methodLink RL 77 yX8_willing : Cond) ∈ T0 := T0_in 1043 (by decide +kernel) (by decide +kernel)
theorem wm_1044 : (.instanceMethod yX8_willing : Cond) ∈ T0 := T0_in 1044 (by decide +kernel) (by decide +kernel)
theorem wm_1045 : (.selects RX8 yX8_willing yX8_willing : Cond) ∈ T0 := T0_in 1045 (by decide +kernel) (by decide +kernel)
theorem wm_1046 : (.code yX8_willing cX8_willing 4 (some .int) : Cond) ∈ T0 := T0_in 1046 (by decide +kernel) (by decide +kernel)
theorem wm_1047 : (.methodLink RL 81 yX8_paid : Cond) ∈ T0 := T0_in 1047 (by decide +kernel) (by decide +kernel)
theorem wm_1048 : (.instanceMethod yX8_paid : Cond) ∈ T0 := T0_in 1048 (by decide +kernel) (by decide +kernel)
theorem wm_1049 : (.selects RX8 yX8_paid yX8_paid : Cond) ∈ T0 := T0_in 1049 (by decide +kernel) (by decide +kernel)
theorem wm_1050 : (.code yX8_paid cX8_paid 2 (some .int) : Cond) ∈ T0 := T0_in 1050 (by decide +kernel) (by decide +kernel)
theorem wm_1051 : (.methodLink RL 85 yX8_hurt : Cond) ∈ T0 := T0_in 1051 (by decide +kernel) (by decide +kernel)
theorem wm_1052 : (.instanceMethod yX8_hurt : Cond) ∈ T0 := T0_in 1052 (by decide +kernel) (by decide +kernel)
theorem wm_1053 : (.selects RX8 yX8_hurt yX8_hurt : Cond) ∈ T0 := T0_in 1053 (by decide +kernel) (by decide +kernel)
theorem wm_1054 : (.code yX8_hurt cX8_hurt 6 (some .int) : Cond) ∈ T0 := T0_in 1054 (by decide +kernel) (by decide +kernel)
theorem wm_1055 : (.methodLink RL 89 yX8_share : Cond) ∈ T0 := T0_in 1055 (by decide +kernel) (by decide +kernel)
theorem wm_1056 : (.instanceMethod yX8_share : Cond) ∈ T0 := T0_in 1056 (by decide +kernel) (by decide +kernel)
theorem wm_1057 : (.selects RX8 yX8_share yX8_share : Cond) ∈ T0 := T0_in 1057 (by decide +kernel) (by decide +kernel)
theorem wm_1058 : (.code yX8_share cX8_share 3 (some .int) : Cond) ∈ T0 := T0_in 1058 (by decide +kernel) (by decide +kernel)
theorem wm_1059 : (.methodLink RL 93 yX8_plan : Cond) ∈ T0 := T0_in 1059 (by decide +kernel) (by decide +kernel)
theorem wm_1060 : (.instanceMethod yX8_plan : Cond) ∈ T0 := T0_in 1060 (by decide +kernel) (by decide +kernel)
theorem wm_1061 : (.selects RX8 yX8_plan yX8_plan : Cond) ∈ T0 := T0_in 1061 (by decide +kernel) (by decide +kernel)
theorem wm_1062 : (.code yX8_plan cX8_plan 5 (some .int) : Cond) ∈ T0 := T0_in 1062 (by decide +kernel) (by decide +kernel)
theorem wm_1063 : (.methodLink RX8 261 yX8_findPlan : Cond) ∈ T0 := T0_in 1063 (by decide +kernel) (by decide +kernel)
theorem wm_1065 : (.instanceMethod yX8_findPlan : Cond) ∈ T0 := T0_in 1065 (by decide +kernel) (by decide +kernel)
theorem wm_1066 : (.code yX8_findPlan cX8_findPlan 12 none : Cond) ∈ T0 := T0_in 1066 (by decide +kernel) (by decide +kernel)
theorem wm_1067 : (.constantLong RX8 253 (-1) : Cond) ∈ T0 := T0_in 1067 (by decide +kernel) (by decide +kernel)
theorem wm_1068 : (.constantLong RX8 259 (1000) : Cond) ∈ T0 := T0_in 1068 (by decide +kernel) (by decide +kernel)
theorem wm_1069 : (.methodLink RL 97 yX8_belief : Cond) ∈ T0 := T0_in 1069 (by decide +kernel) (by decide +kernel)
theorem wm_1070 : (.instanceMethod yX8_belief : Cond) ∈ T0 := T0_in 1070 (by decide +kernel) (by decide +kernel)
theorem wm_1071 : (.selects RX8 yX8_belief yX8_belief : Cond) ∈ T0 := T0_in 1071 (by decide +kernel) (by decide +kernel)
theorem wm_1072 : (.code yX8_belief cX8_belief 4 (some .int) : Cond) ∈ T0 := T0_in 1072 (by decide +kernel) (by decide +kernel)
theorem wm_1073 : (.methodLink RL 101 yX8_need : Cond) ∈ T0 := T0_in 1073 (by decide +kernel) (by decide +kernel)
theorem wm_1074 : (.instanceMethod yX8_need : Cond) ∈ T0 := T0_in 1074 (by decide +kernel) (by decide +kernel)
theorem wm_1075 : (.selects RX8 yX8_need yX8_need : Cond) ∈ T0 := T0_in 1075 (by decide +kernel) (by decide +kernel)
theorem wm_1076 : (.code yX8_need cX8_need 8 (some .int) : Cond) ∈ T0 := T0_in 1076 (by decide +kernel) (by decide +kernel)
theorem wm_1077 : (.methodLink RL 105 yX8_tell : Cond) ∈ T0 := T0_in 1077 (by decide +kernel) (by decide +kernel)
theorem wm_1078 : (.instanceMethod yX8_tell : Cond) ∈ T0 := T0_in 1078 (by decide +kernel) (by decide +kernel)
theorem wm_1079 : (.selects RX8 yX8_tell yX8_tell : Cond) ∈ T0 := T0_in 1079 (by decide +kernel) (by decide +kernel)
theorem wm_1080 : (.code yX8_tell cX8_tell 3 (some .int) : Cond) ∈ T0 := T0_in 1080 (by decide +kernel) (by decide +kernel)
theorem wm_1081 : (.constantLong RX8 264 (9999) : Cond) ∈ T0 := T0_in 1081 (by decide +kernel) (by decide +kernel)
theorem wm_1082 : (.methodLink RL 109 yX8_worth : Cond) ∈ T0 := T0_in 1082 (by decide +kernel) (by decide +kernel)
theorem wm_1083 : (.instanceMethod yX8_worth : Cond) ∈ T0 := T0_in 1083 (by decide +kernel) (by decide +kernel)
theorem wm_1084 : (.selects RX8 yX8_worth yX8_worth : Cond) ∈ T0 := T0_in 1084 (by decide +kernel) (by decide +kernel)
theorem wm_1085 : (.code yX8_worth cX8_worth 8 (some .int) : Cond) ∈ T0 := T0_in 1085 (by decide +kernel) (by decide +kernel)
theorem wm_1086 : (.constantLong RX8 266 (2) : Cond) ∈ T0 := T0_in 1086 (by decide +kernel) (by decide +kernel)
theorem wm_1087 : (.methodLink RL 113 yX8_write : Cond) ∈ T0 := T0_in 1087 (by decide +kernel) (by decide +kernel)
theorem wm_1088 : (.instanceMethod yX8_write : Cond) ∈ T0 := T0_in 1088 (by decide +kernel) (by decide +kernel)
theorem wm_1089 : (.selects RX8 yX8_write yX8_write : Cond) ∈ T0 := T0_in 1089 (by decide +kernel) (by decide +kernel)
theorem wm_1090 : (.code yX8_write cX8_write 2 (some .int) : Cond) ∈ T0 := T0_in 1090 (by decide +kernel) (by decide +kernel)
theorem wm_1091 : (.methodLink RL 117 yX8_tear : Cond) ∈ T0 := T0_in 1091 (by decide +kernel) (by decide +kernel)
theorem wm_1092 : (.instanceMethod yX8_tear : Cond) ∈ T0 := T0_in 1092 (by decide +kernel) (by decide +kernel)
theorem wm_1093 : (.selects RX8 yX8_tear yX8_tear : Cond) ∈ T0 := T0_in 1093 (by decide +kernel) (by decide +kernel)
theorem wm_1094 : (.code yX8_tear cX8_tear 2 (some .int) : Cond) ∈ T0 := T0_in 1094 (by decide +kernel) (by decide +kernel)
theorem wm_1095 : (.methodLink RL 121 yX8_judge : Cond) ∈ T0 := T0_in 1095 (by decide +kernel) (by decide +kernel)
theorem wm_1096 : (.instanceMethod yX8_judge : Cond) ∈ T0 := T0_in 1096 (by decide +kernel) (by decide +kernel)
theorem wm_1097 : (.selects RX8 yX8_judge yX8_judge : Cond) ∈ T0 := T0_in 1097 (by decide +kernel) (by decide +kernel)
theorem wm_1098 : (.code yX8_judge cX8_judge 2 (some .int) : Cond) ∈ T0 := T0_in 1098 (by decide +kernel) (by decide +kernel)
theorem wm_1099 : (.methodLink RL 125 yX8_seed : Cond) ∈ T0 := T0_in 1099 (by decide +kernel) (by decide +kernel)
theorem wm_1100 : (.instanceMethod yX8_seed : Cond) ∈ T0 := T0_in 1100 (by decide +kernel) (by decide +kernel)
theorem wm_1101 : (.selects RX8 yX8_seed yX8_seed : Cond) ∈ T0 := T0_in 1101 (by decide +kernel) (by decide +kernel)
theorem wm_1102 : (.code yX8_seed cX8_seed 3 (some .int) : Cond) ∈ T0 := T0_in 1102 (by decide +kernel) (by decide +kernel)
theorem wm_1103 : (.methodLink RL 129 yX8_keep : Cond) ∈ T0 := T0_in 1103 (by decide +kernel) (by decide +kernel)
theorem wm_1104 : (.instanceMethod yX8_keep : Cond) ∈ T0 := T0_in 1104 (by decide +kernel) (by decide +kernel)
theorem wm_1105 : (.selects RX8 yX8_keep yX8_keep : Cond) ∈ T0 := T0_in 1105 (by decide +kernel) (by decide +kernel)
theorem wm_1106 : (.code yX8_keep cX8_keep 2 (some .int) : Cond) ∈ T0 := T0_in 1106 (by decide +kernel) (by decide +kernel)
theorem wm_1107 : (.methodLink RL 133 yX8_goBack : Cond) ∈ T0 := T0_in 1107 (by decide +kernel) (by decide +kernel)
theorem wm_1108 : (.instanceMethod yX8_goBack : Cond) ∈ T0 := T0_in 1108 (by decide +kernel) (by decide +kernel)
theorem wm_1109 : (.selects RX8 yX8_goBack yX8_goBack : Cond) ∈ T0 := T0_in 1109 (by decide +kernel) (by decide +kernel)
theorem wm_1110 : (.code yX8_goBack cX8_goBack 2 (some .int) : Cond) ∈ T0 := T0_in 1110 (by decide +kernel) (by decide +kernel)
theorem fw_X0 : ∀ w ∈ u_ws RX0 TX0 3, w ∈ T0 := by
  have h : ∀ k, k < 3 → u_lay RX0 TX0 k ∈ T0 := by
    intro k hk
    match k, hk with
    | 0, _ => exact T0_in 218 (by decide +kernel) (by decide +kernel)
    | 1, _ => exact T0_in 220 (by decide +kernel) (by decide +kernel)
    | 2, _ => exact T0_in 222 (by decide +kernel) (by decide +kernel)
    | k + 3, hk => omega
  intro w hw
  obtain ⟨k, hk, rfl⟩ := List.mem_map.mp hw
  exact h k (List.mem_range.mp hk)
theorem fw_X1 : ∀ w ∈ u_ws RX1 TX1 3, w ∈ T0 := by
  have h : ∀ k, k < 3 → u_lay RX1 TX1 k ∈ T0 := by
    intro k hk
    match k, hk with
    | 0, _ => exact T0_in 197 (by decide +kernel) (by decide +kernel)
    | 1, _ => exact T0_in 199 (by decide +kernel) (by decide +kernel)
    | 2, _ => exact T0_in 201 (by decide +kernel) (by decide +kernel)
    | k + 3, hk => omega
  intro w hw
  obtain ⟨k, hk, rfl⟩ := List.mem_map.mp hw
  exact h k (List.mem_range.mp hk)
theorem fw_X2 : ∀ w ∈ u_ws RX2 TX2 7, w ∈ T0 := by
  have h : ∀ k, k < 7 → u_lay RX2 TX2 k ∈ T0 := by
    intro k hk
    match k, hk with
    | 0, _ => exact T0_in 241 (by decide +kernel) (by decide +kernel)
    | 1, _ => exact T0_in 243 (by decide +kernel) (by decide +kernel)
    | 2, _ => exact T0_in 245 (by decide +kernel) (by decide +kernel)
    | 3, _ => exact T0_in 247 (by decide +kernel) (by decide +kernel)
    | 4, _ => exact T0_in 249 (by decide +kernel) (by decide +kernel)
    | 5, _ => exact T0_in 251 (by decide +kernel) (by decide +kernel)
    | 6, _ => exact T0_in 253 (by decide +kernel) (by decide +kernel)
    | k + 7, hk => omega
  intro w hw
  obtain ⟨k, hk, rfl⟩ := List.mem_map.mp hw
  exact h k (List.mem_range.mp hk)
theorem fw_X3 : ∀ w ∈ u_ws RX3 TX3 5, w ∈ T0 := by
  have h : ∀ k, k < 5 → u_lay RX3 TX3 k ∈ T0 := by
    intro k hk
    match k, hk with
    | 0, _ => exact T0_in 140 (by decide +kernel) (by decide +kernel)
    | 1, _ => exact T0_in 142 (by decide +kernel) (by decide +kernel)
    | 2, _ => exact T0_in 144 (by decide +kernel) (by decide +kernel)
    | 3, _ => exact T0_in 146 (by decide +kernel) (by decide +kernel)
    | 4, _ => exact T0_in 148 (by decide +kernel) (by decide +kernel)
    | k + 5, hk => omega
  intro w hw
  obtain ⟨k, hk, rfl⟩ := List.mem_map.mp hw
  exact h k (List.mem_range.mp hk)
theorem fw_X4 : ∀ w ∈ u_ws RX4 TX4 5, w ∈ T0 := by
  have h : ∀ k, k < 5 → u_lay RX4 TX4 k ∈ T0 := by
    intro k hk
    match k, hk with
    | 0, _ => exact T0_in 174 (by decide +kernel) (by decide +kernel)
    | 1, _ => exact T0_in 176 (by decide +kernel) (by decide +kernel)
    | 2, _ => exact T0_in 178 (by decide +kernel) (by decide +kernel)
    | 3, _ => exact T0_in 180 (by decide +kernel) (by decide +kernel)
    | 4, _ => exact T0_in 182 (by decide +kernel) (by decide +kernel)
    | k + 5, hk => omega
  intro w hw
  obtain ⟨k, hk, rfl⟩ := List.mem_map.mp hw
  exact h k (List.mem_range.mp hk)
theorem fw_X5 : ∀ w ∈ u_ws RX5 TX5 4, w ∈ T0 := by
  have h : ∀ k, k < 4 → u_lay RX5 TX5 k ∈ T0 := by
    intro k hk
    match k, hk with
    | 0, _ => exact T0_in 93 (by decide +kernel) (by decide +kernel)
    | 1, _ => exact T0_in 95 (by decide +kernel) (by decide +kernel)
    | 2, _ => exact T0_in 97 (by decide +kernel) (by decide +kernel)
    | 3, _ => exact T0_in 99 (by decide +kernel) (by decide +kernel)
    | k + 4, hk => omega
  intro w hw
  obtain ⟨k, hk, rfl⟩ := List.mem_map.mp hw
  exact h k (List.mem_range.mp hk)
theorem fw_X6 : ∀ w ∈ u_ws RX6 TX6 3, w ∈ T0 := by
  have h : ∀ k, k < 3 → u_lay RX6 TX6 k ∈ T0 := by
    intro k hk
    match k, hk with
    | 0, _ => exact T0_in 128 (by decide +kernel) (by decide +kernel)
    | 1, _ => exact T0_in 130 (by decide +kernel) (by decide +kernel)
    | 2, _ => exact T0_in 132 (by decide +kernel) (by decide +kernel)
    | k + 3, hk => omega
  intro w hw
  obtain ⟨k, hk, rfl⟩ := List.mem_map.mp hw
  exact h k (List.mem_range.mp hk)
theorem fw_X7 : ∀ w ∈ u_ws RX7 TX7 12, w ∈ T0 := by
  have h : ∀ k, k < 12 → u_lay RX7 TX7 k ∈ T0 := by
    intro k hk
    match k, hk with
    | 0, _ => exact T0_in 268 (by decide +kernel) (by decide +kernel)
    | 1, _ => exact T0_in 270 (by decide +kernel) (by decide +kernel)
    | 2, _ => exact T0_in 272 (by decide +kernel) (by decide +kernel)
    | 3, _ => exact T0_in 274 (by decide +kernel) (by decide +kernel)
    | 4, _ => exact T0_in 276 (by decide +kernel) (by decide +kernel)
    | 5, _ => exact T0_in 278 (by decide +kernel) (by decide +kernel)
    | 6, _ => exact T0_in 280 (by decide +kernel) (by decide +kernel)
    | 7, _ => exact T0_in 282 (by decide +kernel) (by decide +kernel)
    | 8, _ => exact T0_in 284 (by decide +kernel) (by decide +kernel)
    | 9, _ => exact T0_in 286 (by decide +kernel) (by decide +kernel)
    | 10, _ => exact T0_in 288 (by decide +kernel) (by decide +kernel)
    | 11, _ => exact T0_in 290 (by decide +kernel) (by decide +kernel)
    | k + 12, hk => omega
  intro w hw
  obtain ⟨k, hk, rfl⟩ := List.mem_map.mp hw
  exact h k (List.mem_range.mp hk)
theorem fw_X8 : ∀ w ∈ u_ws RX8 TX8 36, w ∈ T0 := by
  have h : ∀ k, k < 36 → u_lay RX8 TX8 k ∈ T0 := by
    intro k hk
    match k, hk with
    | 0, _ => exact T0_in 773 (by decide +kernel) (by decide +kernel)
    | 1, _ => exact T0_in 775 (by decide +kernel) (by decide +kernel)
    | 2, _ => exact T0_in 777 (by decide +kernel) (by decide +kernel)
    | 3, _ => exact T0_in 779 (by decide +kernel) (by decide +kernel)
    | 4, _ => exact T0_in 781 (by decide +kernel) (by decide +kernel)
    | 5, _ => exact T0_in 783 (by decide +kernel) (by decide +kernel)
    | 6, _ => exact T0_in 785 (by decide +kernel) (by decide +kernel)
    | 7, _ => exact T0_in 787 (by decide +kernel) (by decide +kernel)
    | 8, _ => exact T0_in 789 (by decide +kernel) (by decide +kernel)
    | 9, _ => exact T0_in 791 (by decide +kernel) (by decide +kernel)
    | 10, _ => exact T0_in 793 (by decide +kernel) (by decide +kernel)
    | 11, _ => exact T0_in 795 (by decide +kernel) (by decide +kernel)
    | 12, _ => exact T0_in 797 (by decide +kernel) (by decide +kernel)
    | 13, _ => exact T0_in 799 (by decide +kernel) (by decide +kernel)
    | 14, _ => exact T0_in 801 (by decide +kernel) (by decide +kernel)
    | 15, _ => exact T0_in 803 (by decide +kernel) (by decide +kernel)
    | 16, _ => exact T0_in 805 (by decide +kernel) (by decide +kernel)
    | 17, _ => exact T0_in 807 (by decide +kernel) (by decide +kernel)
    | 18, _ => exact T0_in 809 (by decide +kernel) (by decide +kernel)
    | 19, _ => exact T0_in 811 (by decide +kernel) (by decide +kernel)
    | 20, _ => exact T0_in 813 (by decide +kernel) (by decide +kernel)
    | 21, _ => exact T0_in 815 (by decide +kernel) (by decide +kernel)
    | 22, _ => exact T0_in 817 (by decide +kernel) (by decide +kernel)
    | 23, _ => exact T0_in 819 (by decide +kernel) (by decide +kernel)
    | 24, _ => exact T0_in 821 (by decide +kernel) (by decide +kernel)
    | 25, _ => exact T0_in 823 (by decide +kernel) (by decide +kernel)
    | 26, _ => exact T0_in 825 (by decide +kernel) (by decide +kernel)
    | 27, _ => exact T0_in 827 (by decide +kernel) (by decide +kernel)
    | 28, _ => exact T0_in 829 (by decide +kernel) (by decide +kernel)
    | 29, _ => exact T0_in 831 (by decide +kernel) (by decide +kernel)
    | 30, _ => exact T0_in 833 (by decide +kernel) (by decide +kernel)
    | 31, _ => exact T0_in 835 (by decide +kernel) (by decide +kernel)
    | 32, _ => exact T0_in 837 (by decide +kernel) (by decide +kernel)
    | 33, _ => exact T0_in 839 (by decide +kernel) (by decide +kernel)
    | 34, _ => exact T0_in 841 (by decide +kernel) (by decide +kernel)
    | 35, _ => exact T0_in 843 (by decide +kernel) (by decide +kernel)
    | k + 36, hk => omega
  intro w hw
  obtain ⟨k, hk, rfl⟩ := List.mem_map.mp hw
  exact h k (List.mem_range.mp hk)
end
section
/-! numbers: iV z, lV z are the machine's int and long of a whole number -/
def iV (z : Int) : Int32 := Int32.ofInt z
def lV (z : Int) : Int64 := Int64.ofInt z
abbrev inI (z : Int) : Prop := -2147483648 ≤ z ∧ z ≤ 2147483647
abbrev inL (z : Int) : Prop := -9223372036854775808 ≤ z ∧ z ≤ 9223372036854775807
theorem iV_toInt {z : Int} (h : inI z) : (iV z).toInt = z := Int32.toInt_ofInt_of_le (by omega) (by omega)
theorem lV_toInt {z : Int} (h : inL z) : (lV z).toInt = z := Int64.toInt_ofInt_of_le (by omega) (by omega)
theorem iV_clamp {z : Int} (h : inI z) : (iV z).toNatClampNeg = z.toNat := Int32.toNatClampNeg_ofInt_of_le (by omega) (by omega)
theorem iV_of (x : Int32) : x = iV x.toInt := (Int32.ofInt_toInt x).symm
theorem iV_rng (x : Int32) : inI x.toInt := ⟨by have := Int32.le_toInt x; omega, by have := Int32.toInt_lt x; omega⟩
theorem iV_add (a b : Int) : iV a + iV b = iV (a + b) := (Int32.ofInt_add a b).symm
theorem iV_sub (a b : Int) : iV a - iV b = iV (a - b) := (Int32.ofInt_sub a b).symm
theorem iV_mul (a b : Int) : iV a * iV b = iV (a * b) := (Int32.ofInt_mul a b).symm
theorem iV_neg (a : Int) : - iV a = iV (-a) := (Int32.ofInt_neg a).symm
theorem iV_inj {a b : Int} (ha : inI a) (hb : inI b) : iV a = iV b ↔ a = b := ⟨fun h => by rw [← iV_toInt ha, ← iV_toInt hb, h], fun h => by rw [h]⟩
theorem iV_lt {a b : Int} (ha : inI a) (hb : inI b) : iV a < iV b ↔ a < b := by rw [Int32.lt_iff_toInt_lt, iV_toInt ha, iV_toInt hb]
theorem iV_le {a b : Int} (ha : inI a) (hb : inI b) : iV a ≤ iV b ↔ a ≤ b := by rw [Int32.le_iff_toInt_le, iV_toInt ha, iV_toInt hb]
theorem iV_0 : (0 : Int32) = iV 0 := rfl
theorem iV_div {a b : Int} (ha : inI a) (hb : inI b) (h1 : b ≠ -1) : iV a / iV b = iV (a.tdiv b) := by
  apply Int32.toInt_inj.mp
  rw [Int32.toInt_div_of_ne_right _ _ (fun h => h1 (by rw [← iV_toInt hb, h]; rfl)), iV_toInt ha, iV_toInt hb, iV_toInt]
  have h : (a.tdiv b).natAbs ≤ a.natAbs := Int.natAbs_tdiv_le_natAbs a b
  by_cases hm : a = -2147483648
  · subst hm
    by_cases hb1 : b = 1
    · subst hb1; decide
    · by_cases hb0 : b = 0
      · subst hb0; decide
      · have h2 : ((-2147483648 : Int).tdiv b).natAbs ≤ 2147483648 / 2 := by
          rw [Int.natAbs_tdiv]
          exact Nat.div_le_div_left (by omega) (by decide)
        omega
  · omega
theorem iV_i2l {a : Int} (h : inI a) : (iV a).toInt64 = lV a := Int32.toInt64_ofInt h.1 h.2
theorem iV_l2i (a : Int) : (lV a).toInt32 = iV a := Int64.toInt32_ofInt
theorem lV_add (a b : Int) : lV a + lV b = lV (a + b) := (Int64.ofInt_add a b).symm
theorem lV_sub (a b : Int) : lV a - lV b = lV (a - b) := (Int64.ofInt_sub a b).symm
theorem lV_mul (a b : Int) : lV a * lV b = lV (a * b) := (Int64.ofInt_mul a b).symm
theorem lV_inj {a b : Int} (ha : inL a) (hb : inL b) : lV a = lV b ↔ a = b := ⟨fun h => by rw [← lV_toInt ha, ← lV_toInt hb, h], fun h => by rw [h]⟩
theorem lV_lt {a b : Int} (ha : inL a) (hb : inL b) : lV a < lV b ↔ a < b := by rw [Int64.lt_iff_toInt_lt, lV_toInt ha, lV_toInt hb]
theorem lV_div {a b : Int} (ha : inL a) (hb : inL b) (h1 : 0 < b) : lV a / lV b = lV (a.tdiv b) := by
  apply Int64.toInt_inj.mp
  rw [Int64.toInt_div_of_ne_right _ _ (fun h => by have h2 : b = -1 := by rw [← lV_toInt hb, h]; rfl
                                                   omega), lV_toInt ha, lV_toInt hb, lV_toInt]
  have h : (a.tdiv b).natAbs ≤ a.natAbs := Int.natAbs_tdiv_le_natAbs a b
  by_cases hm : a = -9223372036854775808
  · have h3 : a.tdiv b ≤ 0 := by
      have h4 : (0 : Int) ≤ (9223372036854775808 : Int).tdiv b := Int.tdiv_nonneg (by omega) (by omega)
      have h5 : a.tdiv b = -((9223372036854775808 : Int).tdiv b) := by rw [hm]; exact Int.neg_tdiv 9223372036854775808 b
      omega
    omega
  · omega
/-! the universe: cell k lies at the address b0 + k -/
abbrev uG : Type := Nat × va_G × ClassId × ClassId × ClassId
def uW (b0 n : Nat) (E : Nat → va_E) : va_W := (List.range n).map (fun k => (b0 + k, E k))
theorem uW_get (b0 : Nat) {n : Nat} (E : Nat → va_E) {k : Nat} (h : k < n) : (uW b0 n E)[k]? = some (b0 + k, E k) := by simp [uW, h]
theorem uW_len (b0 n : Nat) (E : Nat → va_E) : (uW b0 n E).length = n := by simp [uW]
theorem uW_inv {b0 n : Nat} {E : Nat → va_E} {k : Nat} {q : Nat × va_E} (h : (uW b0 n E)[k]? = some q) : k < n ∧ q = (b0 + k, E k) := by
  have hk : k < n := by have := (List.getElem?_eq_some_iff.mp h).1; rwa [uW_len] at this
  rw [uW_get b0 E hk] at h
  exact ⟨hk, (Option.some.inj h).symm⟩
theorem uW_set (b0 : Nat) {n : Nat} (E : Nat → va_E) {k : Nat} (h : k < n) (e : va_E) : (uW b0 n E).set k (b0 + k, e) = uW b0 n (va_up E k e) := by
  apply List.ext_getElem?
  intro j
  by_cases hj : j = k
  · subst hj
    rw [List.getElem?_set_self (by rw [uW_len]; exact h), uW_get b0 _ h, va_up_self]
  · rw [List.getElem?_set_ne (Ne.symm hj)]
    by_cases hn : j < n
    · rw [uW_get b0 _ hn, uW_get b0 _ hn, va_up_ne _ _ hj]
    · rw [List.getElem?_eq_none (by rw [uW_len]; omega), List.getElem?_eq_none (by rw [uW_len]; omega)]
theorem uW_push (b0 n : Nat) (E : Nat → va_E) (e : va_E) : uW b0 n E ++ [(b0 + n, e)] = uW b0 (n + 1) (va_up E n e) := by
  apply List.ext_getElem?
  intro j
  by_cases hn : j < n
  · rw [List.getElem?_append_left (by rw [uW_len]; exact hn), uW_get b0 _ hn, uW_get b0 _ (by omega), va_up_ne _ _ (by omega)]
  · by_cases hj : j = n
    · subst hj
      rw [List.getElem?_append_right (by rw [uW_len]; omega), uW_len, uW_get b0 _ (by omega), va_up_self]
      simp
    · rw [List.getElem?_eq_none (by simp [uW_len]; omega), List.getElem?_eq_none (by rw [uW_len]; omega)]
theorem uW_D (b0 n : Nat) (E : Nat → va_E) : va_D (fun q => b0 ≤ q) (uW b0 n E) := by
  refine ⟨fun i j p q hi hj h => ?_, fun k q h => ?_⟩
  · obtain ⟨-, rfl⟩ := uW_inv hi
    obtain ⟨-, rfl⟩ := uW_inv hj
    have h : b0 + i = b0 + j := h
    omega
  · obtain ⟨-, rfl⟩ := uW_inv h
    exact Nat.le_add_right _ _
def uA (g : uG) : Nat → Prop := fun q => g.1 ≤ q
def uT (g : uG) : List (ClassId × FieldType) := [(g.2.2.1, .int), (g.2.2.2.1, .boolean), (g.2.2.2.2, .object RX4)]
/-- the reader's two tables, which nobody writes -/
def leastT : Nat → Int := fun j => if j = 0 then 1 else if j = 6 then 1 else 0
def greatT : Nat → Int := fun j => match j with
  | 0 => 999
  | 1 => 999
  | 2 => 9
  | 3 => 999
  | 4 => 99
  | 5 => 9
  | 6 => 99
  | 8 => 999
  | 9 => 200
  | _ => 0
def uSt (g : uG) (U : State) (H : Heap) : Prop :=
  (∃ t : Nat, va_Z RX3 "LEAST" "[I" (.ref t) (uA g) U H ∧ va_T .int t 12 (fun j => .int (iV (leastT j))) (uA g) U H) ∧
  (∃ t : Nat, va_Z RX3 "GREATEST" "[I" (.ref t) (uA g) U H ∧ va_T .int t 12 (fun j => .int (iV (greatT j))) (uA g) U H)
theorem uSt.moved {g : uG} {u U : State} {H : Heap} (hvm : u.vm.Alike U.vm) (h : uSt g u H) : uSt g U H := by
  obtain ⟨⟨t, a, b⟩, t2, a2, b2⟩ := h
  exact ⟨⟨t, a.moved hvm, b.moved hvm⟩, t2, a2.moved hvm, b2.moved hvm⟩
theorem uSt.kept {g : uG} {U : State} {H H1 : Heap} (h : uSt g U H) (hq : ∀ a : Nat, a < H.size → ¬ uA g a → H1[a]? = H[a]?) : uSt g U H1 := by
  obtain ⟨⟨t, a, b⟩, t2, a2, b2⟩ := h
  exact ⟨⟨t, a.kept hq, b.kept hq⟩, t2, a2.kept hq, b2.kept hq⟩
/-- the words that a state hands on as they are -/
def uNs (U : State) : Prop := va_Nw (.methodLinkNest RX3 11 yX6_init RX7) U ∧ va_Nw (.methodLinkNest RX7 29 yX6_init RX7) U ∧ va_Nw (.methodLinkNest RX7 36 yX4_init RX7) U ∧ va_Nw (.methodLinkNest RX1 24 yX4_init RX7) U ∧ va_Nw (.methodLinkNest RX7 50 yX0_init RX7) U ∧ va_Nw (.methodLinkNest RX0 9 yX4_init RX7) U ∧ va_AO RX4 U
theorem uNs.warm {s U : State} (hW : s.WarmedH U.vm) (h : uNs s) : uNs U := ⟨va_Nw.warmM hW h.1, va_Nw.warmM hW h.2.1, va_Nw.warmM hW h.2.2.1, va_Nw.warmM hW h.2.2.2.1, va_Nw.warmM hW h.2.2.2.2.1, va_Nw.warmM hW h.2.2.2.2.2.1, va_AO.moved hW.alike h.2.2.2.2.2.2⟩
theorem uNs.same {s U : State} (hW : s.vm = U.vm) (h : uNs s) : uNs U := ⟨va_Nw.same rfl hW h.1, va_Nw.same rfl hW h.2.1, va_Nw.same rfl hW h.2.2.1, va_Nw.same rfl hW h.2.2.2.1, va_Nw.same rfl hW h.2.2.2.2.1, va_Nw.same rfl hW h.2.2.2.2.2.1, va_AO.moved (by rw [hW]; exact Vm.Alike.refl _) h.2.2.2.2.2.2⟩
/-- a state's heap is this universe of n cells -/
def uB (g : uG) (n : Nat) (E : Nat → va_E) (U : State) : Prop := va_P g.2.1 vwCl (uW g.1 n E) U.heap ∧ va_K g.2.1 vwCl (uT g) U ∧ U.heap.size = g.1 + n ∧ uSt g U U.heap ∧ uNs U
/-- the same along a method's walk that began at s -/
def uY (g : uG) (n : Nat) (E : Nat → va_E) (s : State) (H : Heap) (locs : List Loc) : Prop :=
  va_P g.2.1 vwCl (uW g.1 n E) H ∧ va_K g.2.1 vwCl (uT g) s ∧ H.size = g.1 + n ∧ va_S (uA g) s.heap H locs ∧ g.1 ≤ s.heap.size ∧ uSt g s s.heap ∧ uNs s
theorem uY.D {g : uG} {n : Nat} {E : Nat → va_E} : va_D (uA g) (uW g.1 n E) := uW_D g.1 n E
theorem uY.A {g : uG} {n : Nat} {E : Nat → va_E} {s : State} {H : Heap} {locs : List Loc} (Y : uY g n E s H locs) : ∀ q, s.heap.size ≤ q → uA g q := fun q h => Nat.le_trans Y.2.2.2.2.1 h
theorem uY.ent {g : uG} {n : Nat} {E : Nat → va_E} {s : State} (h : uB g n E s) : uY g n E s s.heap [] := ⟨h.1, h.2.1, h.2.2.1, va_S.rf, by have := h.2.2.1; omega, h.2.2.2⟩
theorem uB.calling {g : uG} {n : Nat} {E : Nat → va_E} (a : Array Value) (U : State) (f : JFrame) (mk : MethodId) (h : uB g n E U) : uB g n E (U.calling f mk a) :=
  ⟨h.1, va_K.moved (u := U) (U := U.calling f mk a) (Vm.Alike.refl U.vm) h.2.1, h.2.2.1, uSt.moved (u := U) (U := U.calling f mk a) (Vm.Alike.refl U.vm) h.2.2.2.1, uNs.same (s := U) (U := U.calling f mk a) rfl h.2.2.2.2⟩
theorem uY.out {g : uG} {n : Nat} {E : Nat → va_E} {s : State} {H : Heap} {locs : List Loc} (Y : uY g n E s H locs) {t : State} (ht : t.heap = H) (hW : s.WarmedH t.vm) : uB g n E t ∧ va_F (uA g) s t := by
  obtain ⟨h1, h2, h3, h4, h5, h6, h7⟩ := Y
  refine ⟨⟨by rw [ht]; exact h1, va_K.moved hW.alike h2, by rw [ht]; exact h3, ?_, h7.warm hW⟩, h4.F ht⟩
  rw [ht]
  exact uSt.kept (uSt.moved hW.alike h6) (fun a h7 h8 => h4.2.1 a h7 h8)
theorem uY.back {g : uG} {n n1 : Nat} {E E1 : Nat → va_E} {s t : State} {H H1 : Heap} {locs locs1 : List Loc} (Y : uY g n E s H locs) (B : uB g n1 E1 t) (ht : t.heap = H1) (hvm : s.vm.Alike t.vm) (hS : va_S (uA g) s.heap H1 locs1) : uY g n1 E1 s H1 locs1 := by
  obtain ⟨h1, h2, h3, h4, h5, h6⟩ := Y
  obtain ⟨b1, b2, b3, b4⟩ := B
  subst ht
  exact ⟨b1, va_K.moved hvm.symm b2, b3, hS, h5, h6⟩
theorem uY.pre {g : uG} {n : Nat} {E : Nat → va_E} {s : State} {H : Heap} {locs : List Loc} (Y : uY g n E s H locs) {U : State} (hU : U.heap = H) (hW : s.WarmedH U.vm) : uB g n E U := (Y.out hU hW).1
theorem uY.wr {g : uG} {n : Nat} {E : Nat → va_E} {s : State} {H : Heap} {locs : List Loc} (Y : uY g n E s H locs) {k : Nat} (hk : k < n) {e : va_E} {H1 : Heap} (j : Nat) (hat : va_at g.2.1 vwCl (g.1 + k, e) H1) (z : H1.size = H.size) (oq : ∀ q : Nat, q ≠ g.1 + k → H1[q]? = H[q]?) : uY g n (va_up E k e) s H1 (locs ++ [⟨g.1 + k, j⟩]) := by
  obtain ⟨h1, h2, h3, h4, h5⟩ := Y
  refine ⟨?_, h2, by rw [z]; exact h3, h4.put z oq (Nat.le_add_right _ _), h5⟩
  rw [← uW_set g.1 E hk]
  exact h1.set (uW_D g.1 n E) (uW_get g.1 E hk) hat oq
theorem uY.nw {g : uG} {n : Nat} {E : Nat → va_E} {s : State} {H : Heap} {locs : List Loc} (Y : uY g n E s H locs) {e : va_E} {H1 : Heap} (hat : va_at g.2.1 vwCl (g.1 + n, e) H1) (z : H1.size = H.size + 1) (oq : ∀ q : Nat, q < H.size → H1[q]? = H[q]?) : uY g (n + 1) (va_up E n e) s H1 locs := by
  obtain ⟨h1, h2, h3, h4, h5⟩ := Y
  refine ⟨?_, h2, by rw [z, h3]; omega, ⟨by have := h4.1; omega, fun q g1 g2 => (oq q (Nat.lt_of_lt_of_le g1 h4.1)).trans (h4.2.1 q g1 g2), h4.2.2⟩, h5⟩
  rw [← uW_push g.1 n E]
  refine (h1.kept fun k q hq => oq q.1 ((h1 k q hq).lt)).app fun k q hq => ?_
  have hz : k < 1 := (List.getElem?_eq_some_iff.mp hq).1
  rw [show k = 0 by omega] at hq
  cases hq
  exact hat
/-- the rooms: by depth -/
def uR (d mc ms : Nat) : Room := { frames := d, cells := mc, slots := ms, locals := 40 * d }
def uU (y : MethodName) (cc : ByteArray) (mL : Nat) (ret : Option FieldType) : List Cond := .code y cc mL ret :: T0
/-- what a walk stands on -/
def uX (p : Program) (d : Nat) (R : Room) (s : State) (m : MethodId) (args : Array Value) (c : Code) (cc : ByteArray) (nL : Nat) (own : String) : Prop :=
  p.tables.exec = Jvm.exec ∧ c.code = cc ∧ c.maxLocals = nL ∧ s.vm.findClass own = some m.cls ∧ (∀ w ∈ T0, w.before args s = true) ∧ d ≤ R.frames ∧ 40 * d ≤ R.locals
/-- what the tables say of a method -/
def uK (y : MethodName) (C : String) (cc : ByteArray) (mL : Nat) (ret : Option FieldType) (np : Nat) : Prop :=
  (Cond.initialized C ∈ T0 ∧ Cond.code y cc mL ret ∈ T0) ∧ y.cls = C ∧ (y.cls ≠ "java/lang/invoke/MethodHandle" ∧ y.cls ≠ "java/lang/invoke/VarHandle" ∧ (parseMethodDescriptor y.desc).map (fun d => d.parameters.length) = some np) ∧ mL ≤ 21
theorem uU_good {y : MethodName} {cc : ByteArray} {mL : Nat} {ret : Option FieldType} (h : Cond.code y cc mL ret ∈ T0) : GoodIn T0 (uU y cc mL ret) := by
  intro w hw
  rcases List.mem_cons.mp hw with rfl | hw
  · exact ⟨h, T0_good h⟩
  · exact ⟨hw, T0_good hw⟩
section ROWS
variable {p : Program} {l : Launch} {e : Env} {R : Room} {s : State} {m : MethodId} {args : Array Value} {below : List Frame} {meth : Method} {c : Code} {H : Heap} {locs : List Loc} {cells slots : Nat} {Q : State → Prop}
variable {cc : ByteArray} {pc d nL : Nat} {own : String} {ls : Array Slot} {lv lv' : List (Nat × Value)} {rest : List Value} {g : uG} {n : Nat} {E : Nat → va_E}
theorem uX.hb (X : uX p d R s m args c cc nL own) : c.code = cc := X.2.1
theorem uX.w (X : uX p d R s m args c cc nL own) {w : Cond} (h : w ∈ T0) : w.before args s = true := X.2.2.2.2.1 w h
theorem uX.fix (X : uX p d R s m args c cc nL own) : CallFix p m c cc nL s args T0 own := ⟨X.1, X.2.1, X.2.2.1, X.2.2.2.1, X.2.2.2.2.1⟩
-- constants, locals, stack
theorem r_iconst (X : uX p d R s m args c cc nL own) {z : Int} (hdg : decode cc pc = .ok (.iconst z, 1)) (k : W p l e R s m args below meth c H locs cells slots Q (F0 m (pc + 1) ls (.int (iV z) :: rest))) : W p l e R s m args below meth c H locs cells slots Q (F0 m pc ls rest) := lv_iconst X.1 X.2.1 hdg rfl k
theorem r_bipush (X : uX p d R s m args c cc nL own) (z : Int) (hdg : decode cc pc = .ok (.bipush z, 2)) (hv : (Int8.ofInt z).toInt32 = iV z) (k : W p l e R s m args below meth c H locs cells slots Q (F0 m (pc + 2) ls (.int (iV z) :: rest))) : W p l e R s m args below meth c H locs cells slots Q (F0 m pc ls rest) := lv_bipush X.1 X.2.1 hdg hv k
theorem r_sipush (X : uX p d R s m args c cc nL own) (z : Int) (hdg : decode cc pc = .ok (.sipush z, 3)) (hv : (Int16.ofInt z).toInt32 = iV z) (k : W p l e R s m args below meth c H locs cells slots Q (F0 m (pc + 3) ls (.int (iV z) :: rest))) : W p l e R s m args below meth c H locs cells slots Q (F0 m pc ls rest) := lv_sipush X.1 X.2.1 hdg hv k
theorem r_ldc (X : uX p d R s m args c cc nL own) (z : Int) {i : Nat} {v : Int32} (hc : Cond.constant own i v ∈ T0) (hv : v = iV z) (hdg : decode cc pc = .ok (.ldc i, 2)) (k : W p l e R s m args below meth c H locs cells slots Q (F0 m (pc + 2) ls (.int (iV z) :: rest))) : W p l e R s m args below meth c H locs cells slots Q (F0 m pc ls rest) := lv_ldc X.1 X.2.1 X.2.2.2.1 (X.w hc) hdg (hv ▸ k)
theorem r_lconst (X : uX p d R s m args c cc nL own) (z : Int) {k0 : Fin 2} (hdg : decode cc pc = .ok (.lconst k0, 1)) (hv : Int64.ofNat (k0 : Nat) = lV z) (k : W p l e R s m args below meth c H locs cells slots Q (F0 m (pc + 1) ls (.long (lV z) :: rest))) : W p l e R s m args below meth c H locs cells slots Q (F0 m pc ls rest) := lv_lconst X.1 X.2.1 hdg hv k
theorem r_ldc2 (X : uX p d R s m args c cc nL own) (z : Int) {i : Nat} {v : Int64} (hc : Cond.constantLong own i v ∈ T0) (hv : v = lV z) (hdg : decode cc pc = .ok (.ldc2_w i, 3)) (k : W p l e R s m args below meth c H locs cells slots Q (F0 m (pc + 3) ls (.long (lV z) :: rest))) : W p l e R s m args below meth c H locs cells slots Q (F0 m pc ls rest) := lv_ldc2 X.1 X.2.1 X.2.2.2.1 (X.w hc) hdg (hv ▸ k)
theorem r_iload_n (X : uX p d R s m args c cc nL own) {k0 : Fin 4} {x : Int32} (hdg : decode cc pc = .ok (.iload_n k0, 1)) (hl : lv_has ls nL lv) (i : Nat) (hi : lv[i]? = some ((k0 : Nat), .int x)) (k : W p l e R s m args below meth c H locs cells slots Q (F0 m (pc + 1) ls (.int x :: rest))) : W p l e R s m args below meth c H locs cells slots Q (F0 m pc ls rest) := lv_iload_n X.1 X.2.1 hdg rfl (lv_at hl i hi) k
theorem r_iload (X : uX p d R s m args c cc nL own) {k0 : Nat} {x : Int32} (hdg : decode cc pc = .ok (.iload k0, 2)) (hl : lv_has ls nL lv) (i : Nat) (hi : lv[i]? = some (k0, .int x)) (k : W p l e R s m args below meth c H locs cells slots Q (F0 m (pc + 2) ls (.int x :: rest))) : W p l e R s m args below meth c H locs cells slots Q (F0 m pc ls rest) := lv_iload X.1 X.2.1 hdg (lv_at hl i hi) k
theorem r_lload_n (X : uX p d R s m args c cc nL own) {k0 : Fin 4} {x : Int64} (hdg : decode cc pc = .ok (.lload_n k0, 1)) (hl : lv_has ls nL lv) (i : Nat) (hi : lv[i]? = some ((k0 : Nat), .long x)) (k : W p l e R s m args below meth c H locs cells slots Q (F0 m (pc + 1) ls (.long x :: rest))) : W p l e R s m args below meth c H locs cells slots Q (F0 m pc ls rest) := lv_lload_n X.1 X.2.1 hdg rfl (lv_at hl i hi) k
theorem r_lload (X : uX p d R s m args c cc nL own) {k0 : Nat} {x : Int64} (hdg : decode cc pc = .ok (.lload k0, 2)) (hl : lv_has ls nL lv) (i : Nat) (hi : lv[i]? = some (k0, .long x)) (k : W p l e R s m args below meth c H locs cells slots Q (F0 m (pc + 2) ls (.long x :: rest))) : W p l e R s m args below meth c H locs cells slots Q (F0 m pc ls rest) := lv_lload X.1 X.2.1 hdg (lv_at hl i hi) k
theorem r_aload_n (X : uX p d R s m args c cc nL own) {k0 : Fin 4} {x : Nat} (hdg : decode cc pc = .ok (.aload_n k0, 1)) (hl : lv_has ls nL lv) (i : Nat) (hi : lv[i]? = some ((k0 : Nat), .ref x)) (k : W p l e R s m args below meth c H locs cells slots Q (F0 m (pc + 1) ls (.ref x :: rest))) : W p l e R s m args below meth c H locs cells slots Q (F0 m pc ls rest) := lv_aload_n X.1 X.2.1 hdg rfl (lv_at hl i hi) k
theorem r_aload_nN (X : uX p d R s m args c cc nL own) {k0 : Fin 4} (hdg : decode cc pc = .ok (.aload_n k0, 1)) (hl : lv_has ls nL lv) (i : Nat) (hi : lv[i]? = some ((k0 : Nat), .null)) (k : W p l e R s m args below meth c H locs cells slots Q (F0 m (pc + 1) ls (.null :: rest))) : W p l e R s m args below meth c H locs cells slots Q (F0 m pc ls rest) := lv_aload_nN X.1 X.2.1 hdg rfl (lv_at hl i hi) k
theorem r_istore_n (X : uX p d R s m args c cc nL own) {k0 : Fin 4} {x : Int32} (hdg : decode cc pc = .ok (.istore_n k0, 1)) (h : lv_has ls nL lv) (lv' : List (Nat × Value)) (hn : (k0 : Nat) < nL) (hl : ((k0 : Nat), Value.int x) :: lv.filter (fun q => !(q.1 == (k0 : Nat)) && !(q.1 + 1 == (k0 : Nat) && q.2.category == 2)) = lv')
    (k : ∀ ls' : Array Slot, lv_has ls' nL lv' → W p l e R s m args below meth c H locs cells slots Q (F0 m (pc + 1) ls' rest)) : W p l e R s m args below meth c H locs cells slots Q (F0 m pc ls (.int x :: rest)) := lv_istore_n X.1 X.2.1 hdg rfl h hn hl k
theorem r_istore (X : uX p d R s m args c cc nL own) {k0 : Nat} {x : Int32} (hdg : decode cc pc = .ok (.istore k0, 2)) (h : lv_has ls nL lv) (lv' : List (Nat × Value)) (hn : k0 < nL) (hl : (k0, Value.int x) :: lv.filter (fun q => !(q.1 == k0) && !(q.1 + 1 == k0 && q.2.category == 2)) = lv')
    (k : ∀ ls' : Array Slot, lv_has ls' nL lv' → W p l e R s m args below meth c H locs cells slots Q (F0 m (pc + 2) ls' rest)) : W p l e R s m args below meth c H locs cells slots Q (F0 m pc ls (.int x :: rest)) := lv_istore X.1 X.2.1 hdg h hn hl k
theorem r_astore_n (X : uX p d R s m args c cc nL own) {k0 : Fin 4} {x : Nat} (hdg : decode cc pc = .ok (.astore_n k0, 1)) (h : lv_has ls nL lv) (lv' : List (Nat × Value)) (hn : (k0 : Nat) < nL) (hl : ((k0 : Nat), Value.ref x) :: lv.filter (fun q => !(q.1 == (k0 : Nat)) && !(q.1 + 1 == (k0 : Nat) && q.2.category == 2)) = lv')
    (k : ∀ ls' : Array Slot, lv_has ls' nL lv' → W p l e R s m args below meth c H locs cells slots Q (F0 m (pc + 1) ls' rest)) : W p l e R s m args below meth c H locs cells slots Q (F0 m pc ls (.ref x :: rest)) := lv_astore_n X.1 X.2.1 hdg rfl h hn hl k
theorem r_astore_nN (X : uX p d R s m args c cc nL own) {k0 : Fin 4} (hdg : decode cc pc = .ok (.astore_n k0, 1)) (h : lv_has ls nL lv) (lv' : List (Nat × Value)) (hn : (k0 : Nat) < nL) (hl : ((k0 : Nat), Value.null) :: lv.filter (fun q => !(q.1 == (k0 : Nat)) && !(q.1 + 1 == (k0 : Nat) && q.2.category == 2)) = lv')
    (k : ∀ ls' : Array Slot, lv_has ls' nL lv' → W p l e R s m args below meth c H locs cells slots Q (F0 m (pc + 1) ls' rest)) : W p l e R s m args below meth c H locs cells slots Q (F0 m pc ls (.null :: rest)) := lv_astore_nN X.1 X.2.1 hdg rfl h hn hl k
theorem r_lstore_n (X : uX p d R s m args c cc nL own) {k0 : Fin 4} {x : Int64} (hdg : decode cc pc = .ok (.lstore_n k0, 1)) (h : lv_has ls nL lv) (lv' : List (Nat × Value)) (hn : (k0 : Nat) + 1 < nL) (hl : ((k0 : Nat), Value.long x) :: lv.filter (fun q => !(q.1 == (k0 : Nat)) && (!(q.1 == (k0 : Nat) + 1) && !(q.1 + 1 == (k0 : Nat) && q.2.category == 2))) = lv')
    (k : ∀ ls' : Array Slot, lv_has ls' nL lv' → W p l e R s m args below meth c H locs cells slots Q (F0 m (pc + 1) ls' rest)) : W p l e R s m args below meth c H locs cells slots Q (F0 m pc ls (.long x :: rest)) := lv_lstore_n X.1 X.2.1 hdg rfl h hn hl k
theorem r_lstore (X : uX p d R s m args c cc nL own) {k0 : Nat} {x : Int64} (hdg : decode cc pc = .ok (.lstore k0, 2)) (h : lv_has ls nL lv) (lv' : List (Nat × Value)) (hn : k0 + 1 < nL) (hl : (k0, Value.long x) :: lv.filter (fun q => !(q.1 == k0) && (!(q.1 == k0 + 1) && !(q.1 + 1 == k0 && q.2.category == 2))) = lv')
    (k : ∀ ls' : Array Slot, lv_has ls' nL lv' → W p l e R s m args below meth c H locs cells slots Q (F0 m (pc + 2) ls' rest)) : W p l e R s m args below meth c H locs cells slots Q (F0 m pc ls (.long x :: rest)) := lv_lstore X.1 X.2.1 hdg h hn hl k
theorem r_iinc (X : uX p d R s m args c cc nL own) {k0 : Nat} {q z : Int} (hdg : decode cc pc = .ok (.iinc k0 q, 3)) (h : lv_has ls nL lv) (i : Nat) (hi : lv[i]? = some (k0, .int (iV z))) (lv' : List (Nat × Value)) (hn : k0 < nL) (hl : (k0, Value.int (iV (z + q))) :: lv.filter (fun q => !(q.1 == k0) && !(q.1 + 1 == k0 && q.2.category == 2)) = lv')
    (k : ∀ ls' : Array Slot, lv_has ls' nL lv' → W p l e R s m args below meth c H locs cells slots Q (F0 m (pc + 3) ls' rest)) : W p l e R s m args below meth c H locs cells slots Q (F0 m pc ls rest) := lv_iinc X.1 X.2.1 hdg h hi (iV_add z q) hn hl k
theorem r_dup (X : uX p d R s m args c cc nL own) {va : Value} (hdg : decode cc pc = .ok (.dup, 1)) (hva : va.category = 1) (k : W p l e R s m args below meth c H locs cells slots Q (F0 m (pc + 1) ls (va :: va :: rest))) : W p l e R s m args below meth c H locs cells slots Q (F0 m pc ls (va :: rest)) := lv_dup X.1 X.2.1 hdg hva k
theorem r_pop (X : uX p d R s m args c cc nL own) {va : Value} (hdg : decode cc pc = .ok (.pop, 1)) (hva : va.category = 1) (k : W p l e R s m args below meth c H locs cells slots Q (F0 m (pc + 1) ls rest)) : W p l e R s m args below meth c H locs cells slots Q (F0 m pc ls (va :: rest)) := lv_pop X.1 X.2.1 hdg hva k
theorem r_dup_x1 (X : uX p d R s m args c cc nL own) {va vb : Value} (hdg : decode cc pc = .ok (.dup_x1, 1)) (hva : va.category = 1) (hvb : vb.category = 1) (k : W p l e R s m args below meth c H locs cells slots Q (F0 m (pc + 1) ls (va :: vb :: va :: rest))) : W p l e R s m args below meth c H locs cells slots Q (F0 m pc ls (va :: vb :: rest)) := lv_dup_x1 X.1 X.2.1 hdg hva hvb k
theorem r_dup2 (X : uX p d R s m args c cc nL own) {va vb : Value} (hdg : decode cc pc = .ok (.dup2, 1)) (hva : va.category = 1) (hvb : vb.category = 1) (k : W p l e R s m args below meth c H locs cells slots Q (F0 m (pc + 1) ls (va :: vb :: va :: vb :: rest))) : W p l e R s m args below meth c H locs cells slots Q (F0 m pc ls (va :: vb :: rest)) := lv_dup2_11 X.1 X.2.1 hdg hva hvb k
-- arithmetic
theorem r_iadd (X : uX p d R s m args c cc nL own) {a b : Int} (hdg : decode cc pc = .ok (.iadd, 1)) (k : W p l e R s m args below meth c H locs cells slots Q (F0 m (pc + 1) ls (.int (iV (a + b)) :: rest))) : W p l e R s m args below meth c H locs cells slots Q (F0 m pc ls (.int (iV b) :: .int (iV a) :: rest)) := lv_iadd X.1 X.2.1 hdg (by rw [iV_add]; exact k)
theorem r_isub (X : uX p d R s m args c cc nL own) {a b : Int} (hdg : decode cc pc = .ok (.isub, 1)) (k : W p l e R s m args below meth c H locs cells slots Q (F0 m (pc + 1) ls (.int (iV (a - b)) :: rest))) : W p l e R s m args below meth c H locs cells slots Q (F0 m pc ls (.int (iV b) :: .int (iV a) :: rest)) := lv_isub X.1 X.2.1 hdg (by rw [iV_sub]; exact k)
theorem r_imul (X : uX p d R s m args c cc nL own) {a b : Int} (hdg : decode cc pc = .ok (.imul, 1)) (k : W p l e R s m args below meth c H locs cells slots Q (F0 m (pc + 1) ls (.int (iV (a * b)) :: rest))) : W p l e R s m args below meth c H locs cells slots Q (F0 m pc ls (.int (iV b) :: .int (iV a) :: rest)) := lv_imul X.1 X.2.1 hdg (by rw [iV_mul]; exact k)
theorem r_idiv (X : uX p d R s m args c cc nL own) {a b : Int} (hdg : decode cc pc = .ok (.idiv, 1)) (ha : inI a) (hb : inI b) (h0 : 0 < b) (k : W p l e R s m args below meth c H locs cells slots Q (F0 m (pc + 1) ls (.int (iV (a.tdiv b)) :: rest))) : W p l e R s m args below meth c H locs cells slots Q (F0 m pc ls (.int (iV b) :: .int (iV a) :: rest)) := lv_idiv X.1 X.2.1 hdg (by rw [iV_0, iV_inj hb (by omega)]; omega) (by rw [iV_div ha hb (by omega)]; exact k)
theorem r_i2l (X : uX p d R s m args c cc nL own) {a : Int} (hdg : decode cc pc = .ok (.i2l, 1)) (ha : inI a) (k : W p l e R s m args below meth c H locs cells slots Q (F0 m (pc + 1) ls (.long (lV a) :: rest))) : W p l e R s m args below meth c H locs cells slots Q (F0 m pc ls (.int (iV a) :: rest)) := lv_i2l X.1 X.2.1 hdg (iV_i2l ha) k
theorem r_l2i (X : uX p d R s m args c cc nL own) {a : Int} (hdg : decode cc pc = .ok (.l2i, 1)) (k : W p l e R s m args below meth c H locs cells slots Q (F0 m (pc + 1) ls (.int (iV a) :: rest))) : W p l e R s m args below meth c H locs cells slots Q (F0 m pc ls (.long (lV a) :: rest)) := lv_l2i X.1 X.2.1 hdg (iV_l2i a) k
theorem r_ladd (X : uX p d R s m args c cc nL own) {a b : Int} (hdg : decode cc pc = .ok (.ladd, 1)) (k : W p l e R s m args below meth c H locs cells slots Q (F0 m (pc + 1) ls (.long (lV (a + b)) :: rest))) : W p l e R s m args below meth c H locs cells slots Q (F0 m pc ls (.long (lV b) :: .long (lV a) :: rest)) := lv_ladd X.1 X.2.1 hdg (by rw [lV_add]; exact k)
theorem r_lsub (X : uX p d R s m args c cc nL own) {a b : Int} (hdg : decode cc pc = .ok (.lsub, 1)) (k : W p l e R s m args below meth c H locs cells slots Q (F0 m (pc + 1) ls (.long (lV (a - b)) :: rest))) : W p l e R s m args below meth c H locs cells slots Q (F0 m pc ls (.long (lV b) :: .long (lV a) :: rest)) := lv_lsub X.1 X.2.1 hdg (by rw [lV_sub]; exact k)
theorem r_lmul (X : uX p d R s m args c cc nL own) {a b : Int} (hdg : decode cc pc = .ok (.lmul, 1)) (k : W p l e R s m args below meth c H locs cells slots Q (F0 m (pc + 1) ls (.long (lV (a * b)) :: rest))) : W p l e R s m args below meth c H locs cells slots Q (F0 m pc ls (.long (lV b) :: .long (lV a) :: rest)) := lv_lmul X.1 X.2.1 hdg (by rw [lV_mul]; exact k)
theorem r_ldiv (X : uX p d R s m args c cc nL own) {a b : Int} (hdg : decode cc pc = .ok (.ldiv, 1)) (ha : inL a) (hb : inL b) (h0 : 0 < b) (k : W p l e R s m args below meth c H locs cells slots Q (F0 m (pc + 1) ls (.long (lV (a.tdiv b)) :: rest))) : W p l e R s m args below meth c H locs cells slots Q (F0 m pc ls (.long (lV b) :: .long (lV a) :: rest)) := lv_ldiv X.1 X.2.1 hdg (by rw [show (0 : Int64) = lV 0 from rfl, lV_inj hb (by omega)]; omega) (by rw [lV_div ha hb h0]; exact k)
/-- another name of the number on top -/
theorem r_eq {z z' : Int} (h : z = z') (k : W p l e R s m args below meth c H locs cells slots Q (F0 m pc ls (.int (iV z') :: rest))) : W p l e R s m args below meth c H locs cells slots Q (F0 m pc ls (.int (iV z) :: rest)) := h ▸ k
theorem r_eql {z z' : Int} (h : z = z') (k : W p l e R s m args below meth c H locs cells slots Q (F0 m pc ls (.long (lV z') :: rest))) : W p l e R s m args below meth c H locs cells slots Q (F0 m pc ls (.long (lV z) :: rest)) := h ▸ k
/-- a fresh name of the number on top -/
theorem r_nm {z : Int} (k : ∀ z' : Int, z' = z → W p l e R s m args below meth c H locs cells slots Q (F0 m pc ls (.int (iV z') :: rest))) : W p l e R s m args below meth c H locs cells slots Q (F0 m pc ls (.int (iV z) :: rest)) := k z rfl
-- branches
theorem r_if_eq (X : uX p d R s m args c cc nL own) {z : Int} {off : Int} {tgt : Nat} (hdg : decode cc pc = .ok (.ifCond .eq off, 3)) (ht : (pc : Int) + off = (tgt : Int)) (hz : inI z) (kt : z = 0 → W p l e R s m args below meth c H locs cells slots Q (F0 m tgt ls rest)) (kf : ¬ z = 0 → W p l e R s m args below meth c H locs cells slots Q (F0 m (pc + 3) ls rest)) : W p l e R s m args below meth c H locs cells slots Q (F0 m pc ls (.int (iV z) :: rest)) := lv_if_eq X.1 X.2.1 hdg ht (fun h => kt ((iV_inj hz (by decide)).mp h)) (fun h => kf (fun q => h ((iV_inj hz (by decide)).mpr q)))
theorem r_if_ne (X : uX p d R s m args c cc nL own) {z : Int} {off : Int} {tgt : Nat} (hdg : decode cc pc = .ok (.ifCond .ne off, 3)) (ht : (pc : Int) + off = (tgt : Int)) (hz : inI z) (kt : ¬ z = 0 → W p l e R s m args below meth c H locs cells slots Q (F0 m tgt ls rest)) (kf : z = 0 → W p l e R s m args below meth c H locs cells slots Q (F0 m (pc + 3) ls rest)) : W p l e R s m args below meth c H locs cells slots Q (F0 m pc ls (.int (iV z) :: rest)) := lv_if_ne X.1 X.2.1 hdg ht (fun h => kt (fun q => h ((iV_inj hz (by decide)).mpr q))) (fun h => kf ((iV_inj hz (by decide)).mp h))
theorem r_if_lt (X : uX p d R s m args c cc nL own) {z : Int} {off : Int} {tgt : Nat} (hdg : decode cc pc = .ok (.ifCond .lt off, 3)) (ht : (pc : Int) + off = (tgt : Int)) (hz : inI z) (kt : z < 0 → W p l e R s m args below meth c H locs cells slots Q (F0 m tgt ls rest)) (kf : ¬ z < 0 → W p l e R s m args below meth c H locs cells slots Q (F0 m (pc + 3) ls rest)) : W p l e R s m args below meth c H locs cells slots Q (F0 m pc ls (.int (iV z) :: rest)) := lv_if_lt X.1 X.2.1 hdg ht (fun h => kt ((iV_lt hz (by decide)).mp h)) (fun h => kf (fun q => h ((iV_lt hz (by decide)).mpr q)))
theorem r_if_le (X : uX p d R s m args c cc nL own) {z : Int} {off : Int} {tgt : Nat} (hdg : decode cc pc = .ok (.ifCond .le off, 3)) (ht : (pc : Int) + off = (tgt : Int)) (hz : inI z) (kt : z ≤ 0 → W p l e R s m args below meth c H locs cells slots Q (F0 m tgt ls rest)) (kf : ¬ z ≤ 0 → W p l e R s m args below meth c H locs cells slots Q (F0 m (pc + 3) ls rest)) : W p l e R s m args below meth c H locs cells slots Q (F0 m pc ls (.int (iV z) :: rest)) := lv_if_le X.1 X.2.1 hdg ht (fun h => kt ((iV_le hz (by decide)).mp h)) (fun h => kf (fun q => h ((iV_le hz (by decide)).mpr q)))
theorem r_if_ge (X : uX p d R s m args c cc nL own) {z : Int} {off : Int} {tgt : Nat} (hdg : decode cc pc = .ok (.ifCond .ge off, 3)) (ht : (pc : Int) + off = (tgt : Int)) (hz : inI z) (kt : 0 ≤ z → W p l e R s m args below meth c H locs cells slots Q (F0 m tgt ls rest)) (kf : ¬ 0 ≤ z → W p l e R s m args below meth c H locs cells slots Q (F0 m (pc + 3) ls rest)) : W p l e R s m args below meth c H locs cells slots Q (F0 m pc ls (.int (iV z) :: rest)) := lv_if_ge X.1 X.2.1 hdg ht (fun h => kt ((iV_le (by decide) hz).mp h)) (fun h => kf (fun q => h ((iV_le (by decide) hz).mpr q)))
theorem r_if_gt (X : uX p d R s m args c cc nL own) {z : Int} {off : Int} {tgt : Nat} (hdg : decode cc pc = .ok (.ifCond .gt off, 3)) (ht : (pc : Int) + off = (tgt : Int)) (hz : inI z) (kt : 0 < z → W p l e R s m args below meth c H locs cells slots Q (F0 m tgt ls rest)) (kf : ¬ 0 < z → W p l e R s m args below meth c H locs cells slots Q (F0 m (pc + 3) ls rest)) : W p l e R s m args below meth c H locs cells slots Q (F0 m pc ls (.int (iV z) :: rest)) := lv_if_gt X.1 X.2.1 hdg ht (fun h => kt ((iV_lt (by decide) hz).mp h)) (fun h => kf (fun q => h ((iV_lt (by decide) hz).mpr q)))
theorem r_icmp_eq (X : uX p d R s m args c cc nL own) {a b : Int} {off : Int} {tgt : Nat} (hdg : decode cc pc = .ok (.if_icmp .eq off, 3)) (ht : (pc : Int) + off = (tgt : Int)) (ha : inI a) (hb : inI b) (kt : a = b → W p l e R s m args below meth c H locs cells slots Q (F0 m tgt ls rest)) (kf : ¬ a = b → W p l e R s m args below meth c H locs cells slots Q (F0 m (pc + 3) ls rest)) : W p l e R s m args below meth c H locs cells slots Q (F0 m pc ls (.int (iV b) :: .int (iV a) :: rest)) := lv_icmp_eq X.1 X.2.1 hdg ht (fun h => kt ((iV_inj ha hb).mp h)) (fun h => kf (fun q => h ((iV_inj ha hb).mpr q)))
theorem r_icmp_ne (X : uX p d R s m args c cc nL own) {a b : Int} {off : Int} {tgt : Nat} (hdg : decode cc pc = .ok (.if_icmp .ne off, 3)) (ht : (pc : Int) + off = (tgt : Int)) (ha : inI a) (hb : inI b) (kt : ¬ a = b → W p l e R s m args below meth c H locs cells slots Q (F0 m tgt ls rest)) (kf : a = b → W p l e R s m args below meth c H locs cells slots Q (F0 m (pc + 3) ls rest)) : W p l e R s m args below meth c H locs cells slots Q (F0 m pc ls (.int (iV b) :: .int (iV a) :: rest)) := lv_icmp_ne X.1 X.2.1 hdg ht (fun h => kt (fun q => h ((iV_inj ha hb).mpr q))) (fun h => kf ((iV_inj ha hb).mp h))
theorem r_icmp_lt (X : uX p d R s m args c cc nL own) {a b : Int} {off : Int} {tgt : Nat} (hdg : decode cc pc = .ok (.if_icmp .lt off, 3)) (ht : (pc : Int) + off = (tgt : Int)) (ha : inI a) (hb : inI b) (kt : a < b → W p l e R s m args below meth c H locs cells slots Q (F0 m tgt ls rest)) (kf : ¬ a < b → W p l e R s m args below meth c H locs cells slots Q (F0 m (pc + 3) ls rest)) : W p l e R s m args below meth c H locs cells slots Q (F0 m pc ls (.int (iV b) :: .int (iV a) :: rest)) := lv_icmp_lt X.1 X.2.1 hdg ht (fun h => kt ((iV_lt ha hb).mp h)) (fun h => kf (fun q => h ((iV_lt ha hb).mpr q)))
theorem r_icmp_le (X : uX p d R s m args c cc nL own) {a b : Int} {off : Int} {tgt : Nat} (hdg : decode cc pc = .ok (.if_icmp .le off, 3)) (ht : (pc : Int) + off = (tgt : Int)) (ha : inI a) (hb : inI b) (kt : a ≤ b → W p l e R s m args below meth c H locs cells slots Q (F0 m tgt ls rest)) (kf : ¬ a ≤ b → W p l e R s m args below meth c H locs cells slots Q (F0 m (pc + 3) ls rest)) : W p l e R s m args below meth c H locs cells slots Q (F0 m pc ls (.int (iV b) :: .int (iV a) :: rest)) := lv_icmp_le X.1 X.2.1 hdg ht (fun h => kt ((iV_le ha hb).mp h)) (fun h => kf (fun q => h ((iV_le ha hb).mpr q)))
theorem r_icmp_ge (X : uX p d R s m args c cc nL own) {a b : Int} {off : Int} {tgt : Nat} (hdg : decode cc pc = .ok (.if_icmp .ge off, 3)) (ht : (pc : Int) + off = (tgt : Int)) (ha : inI a) (hb : inI b) (kt : b ≤ a → W p l e R s m args below meth c H locs cells slots Q (F0 m tgt ls rest)) (kf : ¬ b ≤ a → W p l e R s m args below meth c H locs cells slots Q (F0 m (pc + 3) ls rest)) : W p l e R s m args below meth c H locs cells slots Q (F0 m pc ls (.int (iV b) :: .int (iV a) :: rest)) := lv_icmp_ge X.1 X.2.1 hdg ht (fun h => kt ((iV_le hb ha).mp h)) (fun h => kf (fun q => h ((iV_le hb ha).mpr q)))
theorem r_icmp_gt (X : uX p d R s m args c cc nL own) {a b : Int} {off : Int} {tgt : Nat} (hdg : decode cc pc = .ok (.if_icmp .gt off, 3)) (ht : (pc : Int) + off = (tgt : Int)) (ha : inI a) (hb : inI b) (kt : b < a → W p l e R s m args below meth c H locs cells slots Q (F0 m tgt ls rest)) (kf : ¬ b < a → W p l e R s m args below meth c H locs cells slots Q (F0 m (pc + 3) ls rest)) : W p l e R s m args below meth c H locs cells slots Q (F0 m pc ls (.int (iV b) :: .int (iV a) :: rest)) := lv_icmp_gt X.1 X.2.1 hdg ht (fun h => kt ((iV_lt hb ha).mp h)) (fun h => kf (fun q => h ((iV_lt hb ha).mpr q)))
theorem r_goto (X : uX p d R s m args c cc nL own) {off : Int} (tgt : Nat) (hdg : decode cc pc = .ok (.goto off, 3)) (ht : (pc : Int) + off = (tgt : Int)) (k : W p l e R s m args below meth c H locs cells slots Q (F0 m tgt ls rest)) : W p l e R s m args below meth c H locs cells slots Q (F0 m pc ls rest) := lv_goto X.1 X.2.1 hdg ht k
/-- the compare of two longs, as a number -/
def cmpZ (a b : Int) : Int := if b < a then 1 else if a = b then 0 else -1
theorem r_lcmp (X : uX p d R s m args c cc nL own) {a b : Int} (hdg : decode cc pc = .ok (.lcmp, 1)) (ha : inL a) (hb : inL b) (k : W p l e R s m args below meth c H locs cells slots Q (F0 m (pc + 1) ls (.int (iV (cmpZ a b)) :: rest))) : W p l e R s m args below meth c H locs cells slots Q (F0 m pc ls (.long (lV b) :: .long (lV a) :: rest)) := by
  refine W.lcmp X.1 X.2.1 hdg ?_
  have h : lg_cmp (lV a) (lV b) = iV (cmpZ a b) := by
    unfold lg_cmp cmpZ
    have h1 : (lV a > lV b) ↔ b < a := lV_lt hb ha
    by_cases q1 : b < a
    · rw [if_pos (h1.mpr q1), if_pos q1]; rfl
    · rw [if_neg (fun z => q1 (h1.mp z)), if_neg q1]
      by_cases q2 : a = b
      · rw [if_pos ((lV_inj ha hb).mpr q2), if_pos q2]; rfl
      · rw [if_neg (fun z => q2 ((lV_inj ha hb).mp z)), if_neg q2]; rfl
  rw [h]
  exact k
theorem r_tabIn (X : uX p d R s m args c cc nL own) {dflt lo hi : Int} {offs : Array Int} {len : Nat} {z : Int} (off : Int) (tgt : Nat) (hdg : decode cc pc = .ok (.tableswitch dflt lo hi offs, len)) (hz : inI z) (h1 : ¬ z < lo) (h2 : ¬ hi < z) (ho : offs[(z - lo).toNat]? = some off) (ht : (pc : Int) + off = (tgt : Int)) (k : W p l e R s m args below meth c H locs cells slots Q (F0 m tgt ls rest)) : W p l e R s m args below meth c H locs cells slots Q (F0 m pc ls (.int (iV z) :: rest)) := lv_tableIn X.1 X.2.1 hdg (by rw [iV_toInt hz]; exact h1) (by rw [iV_toInt hz]; exact h2) (by rw [iV_toInt hz]; exact ho) ht k
theorem r_tabOut (X : uX p d R s m args c cc nL own) {dflt lo hi : Int} {offs : Array Int} {len : Nat} {z : Int} (tgt : Nat) (hdg : decode cc pc = .ok (.tableswitch dflt lo hi offs, len)) (hz : inI z) (h : z < lo ∨ hi < z) (ht : (pc : Int) + dflt = (tgt : Int)) (k : W p l e R s m args below meth c H locs cells slots Q (F0 m tgt ls rest)) : W p l e R s m args below meth c H locs cells slots Q (F0 m pc ls (.int (iV z) :: rest)) := lv_tableOut X.1 X.2.1 hdg (by rw [iV_toInt hz]; exact h) ht k
theorem r_ifnull (X : uX p d R s m args c cc nL own) {x : Nat} {off : Int} (hdg : decode cc pc = .ok (.ifnull off, 3)) (k : W p l e R s m args below meth c H locs cells slots Q (F0 m (pc + 3) ls rest)) : W p l e R s m args below meth c H locs cells slots Q (F0 m pc ls (.ref x :: rest)) := lv_ifnull X.1 X.2.1 hdg k
theorem r_ifnonnull (X : uX p d R s m args c cc nL own) {x : Nat} {off : Int} (tgt : Nat) (hdg : decode cc pc = .ok (.ifnonnull off, 3)) (ht : (pc : Int) + off = (tgt : Int)) (k : W p l e R s m args below meth c H locs cells slots Q (F0 m tgt ls rest)) : W p l e R s m args below meth c H locs cells slots Q (F0 m pc ls (.ref x :: rest)) := lv_ifnonnull X.1 X.2.1 hdg ht k
theorem r_ifnullN (X : uX p d R s m args c cc nL own) {off : Int} (tgt : Nat) (hdg : decode cc pc = .ok (.ifnull off, 3)) (ht : (pc : Int) + off = (tgt : Int)) (k : W p l e R s m args below meth c H locs cells slots Q (F0 m tgt ls rest)) : W p l e R s m args below meth c H locs cells slots Q (F0 m pc ls (.null :: rest)) := lv_ifnullN X.1 X.2.1 hdg ht k
theorem r_ifnonnullN (X : uX p d R s m args c cc nL own) {off : Int} (hdg : decode cc pc = .ok (.ifnonnull off, 3)) (k : W p l e R s m args below meth c H locs cells slots Q (F0 m (pc + 3) ls rest)) : W p l e R s m args below meth c H locs cells slots Q (F0 m pc ls (.null :: rest)) := lv_ifnonnullN X.1 X.2.1 hdg k
theorem r_null (X : uX p d R s m args c cc nL own) (hdg : decode cc pc = .ok (.aconst_null, 1)) (k : W p l e R s m args below meth c H locs cells slots Q (F0 m (pc + 1) ls (.null :: rest))) : W p l e R s m args below meth c H locs cells slots Q (F0 m pc ls rest) := lv_null X.1 X.2.1 hdg k
-- fields
theorem u_get (X : uX p d R s m args c cc nL own) (Y : uY g n E s H locs) {k : Nat} (hk : k < n) {ci : Nat} {fs : List Value} (he : E k = .inr (ci, fs)) {C : String} {T : u_T} {N : Nat} (hin : ∀ w ∈ u_ws C T N, w ∈ T0) (hc : vwCl[ci]? = some (C, T, N)) (j : Nat) (hj : j < N) {index : Nat} (hlink : Cond.fieldLink own index C (T j).2.1 (T j).2.2.1 ∈ T0) (ho : (T j).1 = C) {v : Value} (hv : fs[j]? = some v) (hdg : decode cc pc = .ok (.getfield index, 3))
    (kk : W p l e R s m args below meth c H locs cells slots Q (F0 m (pc + 3) ls (v :: rest))) : W p l e R s m args below meth c H locs cells slots Q (F0 m pc ls (.ref (g.1 + k) :: rest)) :=
  va_get X.1 X.2.1 X.2.2.2.2.1 hin X.2.2.2.1 Y.2.1 Y.1 k (by rw [uW_get g.1 E hk, he]) hc j hj (X.w hlink) (fun x h => by rw [ho] at h; exact h) hv hdg kk
theorem u_put (X : uX p d R s m args c cc nL own) (Y : uY g n E s H locs) {k : Nat} (hk : k < n) {ci : Nat} {fs : List Value} (he : E k = .inr (ci, fs)) {C : String} {T : u_T} {N : Nat} (hin : ∀ w ∈ u_ws C T N, w ∈ T0) (ty0 : Nat → FieldType) (hty : ∀ k, k < N → parseFieldDescriptor (T k).2.2.1 = some (ty0 k)) (hnm : ∀ a, a < N → ∀ b, b < N → a ≠ b → (T a).2.1 ≠ (T b).2.1) (hc : vwCl[ci]? = some (C, T, N)) (j : Nat) (hj : j < N) {index : Nat} (hlink : Cond.fieldLink own index C (T j).2.1 (T j).2.2.1 ∈ T0) (ho : (T j).1 = C) (hfin : (T j).2.2.2 = false) {v : Value} (hn : narrow (ty0 j) v = v) (hfit : fits (ty0 j) v = true) (hl : j < fs.length) (hdg : decode cc pc = .ok (.putfield index, 3))
    (kk : ∀ (H1 : Heap) (locs1 : List Loc), uY g n (va_up E k (.inr (ci, fs.set j v))) s H1 locs1 → W p l e R s m args below meth c H1 locs1 cells slots Q (F0 m (pc + 3) ls rest)) : W p l e R s m args below meth c H locs cells slots Q (F0 m pc ls (v :: .ref (g.1 + k) :: rest)) := by
  have hap := va_apart (own := own) X.2.2.2.2.1 hin ty0 hty hnm Y.2.1 hc
  obtain ⟨r, h1, cell, q1, q2, q3, q4⟩ := Y.1 k _ (by rw [uW_get g.1 E hk, he])
  have hr : r = (C, T, N) := Option.some.inj (h1.symm.trans hc)
  subst hr
  obtain ⟨hS, hfc, kC, hkC, hkind⟩ := Y.2.1.1 ci _ hc
  obtain ⟨cf, kf, fi, f, hi, hsl⟩ := hS j hj
  have hlay := X.2.2.2.2.1 _ (hin _ (u_in_lay hj))
  unfold u_lay at hlay
  rw [if_neg (by rw [hfin]; decide)] at hlay
  have hst := (u_facts hfc hkC (u_lays X.2.2.2.2.1 hin hj) hi).1
  have h6 := u_store hfc hkC hkind hlay hi (hty j hj) hn hfit
  refine W.putK X.1 X.2.1 (f := f) ⟨X.2.2.2.1, X.w hlink, ⟨_, _, _, by rw [ho] at hi; exact hi⟩, hst⟩ (by rw [q2]; exact h6) q1 q3 (by rw [hsl]; exact k2_hasslot (q4 j hj)) rfl rfl hdg fun H' e1 e2 e3 => ?_
  rw [hsl] at e1 ⊢
  exact kk H' _ (Y.wr hk _ ⟨_, hc, t_OB.to (V := updV (vp_V fs) j v) ⟨_, e1, q2, q3, t_set q4 hap hj v⟩ (fun i _ => vp_updV_set hl v i)⟩ e2 e3)
theorem u_putF (X : uX p d R s m args c cc nL own) (Y : uY g n E s H locs) {k : Nat} (hk : k < n) {ci : Nat} {fs : List Value} (he : E k = .inr (ci, fs)) {C : String} {T : u_T} {N : Nat} (hin : ∀ w ∈ u_ws C T N, w ∈ T0) (ty0 : Nat → FieldType) (hty : ∀ k, k < N → parseFieldDescriptor (T k).2.2.1 = some (ty0 k)) (hnm : ∀ a, a < N → ∀ b, b < N → a ≠ b → (T a).2.1 ≠ (T b).2.1) (hc : vwCl[ci]? = some (C, T, N)) (j : Nat) (hj : j < N) {index : Nat} (hlink : Cond.fieldLink own index C (T j).2.1 (T j).2.2.1 ∈ T0) (ho : (T j).1 = C) (hfin : (T j).2.2.2 = true) (hoC : own = C) (hin2 : meth.name = "<init>") {v : Value} (hn : narrow (ty0 j) v = v) (hfit : fits (ty0 j) v = true) (hl : j < fs.length) (hdg : decode cc pc = .ok (.putfield index, 3))
    (kk : ∀ (H1 : Heap) (locs1 : List Loc), uY g n (va_up E k (.inr (ci, fs.set j v))) s H1 locs1 → W p l e R s m args below meth c H1 locs1 cells slots Q (F0 m (pc + 3) ls rest)) : W p l e R s m args below meth c H locs cells slots Q (F0 m pc ls (v :: .ref (g.1 + k) :: rest)) := by
  have hap := va_apart (own := own) X.2.2.2.2.1 hin ty0 hty hnm Y.2.1 hc
  obtain ⟨r, h1, cell, q1, q2, q3, q4⟩ := Y.1 k _ (by rw [uW_get g.1 E hk, he])
  have hr : r = (C, T, N) := Option.some.inj (h1.symm.trans hc)
  subst hr
  obtain ⟨hS, hfc, kC, hkC, hkind⟩ := Y.2.1.1 ci _ hc
  obtain ⟨cf, kf, fi, f, hi, hsl⟩ := hS j hj
  have hlay := X.2.2.2.2.1 _ (hin _ (u_in_lay hj))
  unfold u_lay at hlay
  rw [if_pos hfin] at hlay
  have hst := (u_facts hfc hkC (u_lays X.2.2.2.2.1 hin hj) hi).1
  have hcf : m.cls = cf := by
    obtain ⟨_, _, c', _, _, _, -, -, hf', -, -, -, hown2, -⟩ := Cond.laysFinal_spec hlay
    have e1 : c' = cf := by have := hi.symm.trans hf'; simp at this; exact this.1.symm
    rw [ho, ← hoC] at hown2
    rw [← e1]; exact Option.some.inj (X.2.2.2.1.symm.trans hown2)
  have h6 := u_fits hfc hkC hkind (Or.inr hlay) hi (hty j hj) hn hfit
  refine W.putFinK X.1 X.2.1 (f := f) X.2.2.2.1 (X.w hlink) (by rw [ho] at hi; exact hi) hst hcf hin2 (by rw [q2]; exact h6) q1 q3 (by rw [hsl]; exact k2_hasslot (q4 j hj)) rfl rfl hdg fun H' e1 e2 e3 => ?_
  rw [hsl] at e1 ⊢
  exact kk H' _ (Y.wr hk _ ⟨_, hc, t_OB.to (V := updV (vp_V fs) j v) ⟨_, e1, q2, q3, t_set q4 hap hj v⟩ (fun i _ => vp_updV_set hl v i)⟩ e2 e3)
-- arrays: their numbers are a function of a whole number
/-- an array of n ints (or booleans) of the class cA, that holds f -/
def aV (cA : ClassId) (n : Nat) (f : Int → Int) : va_E := .inl (cA, n, .inl (fun j => iV (f j)))
def up1 (f : Int → Int) (i z : Int) : Int → Int := fun j => if j = i then z else f j
theorem vp_inZ {z : Int} {n : Nat} (h0 : 0 ≤ z) (h1 : z < n) (hn : (n : Int) ≤ 2147483647) : vp_in (iV z) n := by
  rintro (h | h)
  · rw [iV_0, iV_lt (by omega) (by decide)] at h; omega
  · rw [iV_clamp (by omega)] at h; omega
theorem u_iald (X : uX p d R s m args c cc nL own) (Y : uY g n E s H locs) {k : Nat} (hk : k < n) {N : Nat} {f : Int → Int} (he : E k = aV g.2.2.1 N f) {z : Int} (h0 : 0 ≤ z) (h1 : z < N) (hN : (N : Int) ≤ 2147483647) (hdg : decode cc pc = .ok (.iaload, 1))
    (kk : W p l e R s m args below meth c H locs cells slots Q (F0 m (pc + 1) ls (.int (iV (f z)) :: rest))) : W p l e R s m args below meth c H locs cells slots Q (F0 m pc ls (.int (iV z) :: .ref (g.1 + k) :: rest)) := by
  refine va_iald X.1 X.2.1 Y.2.1 Y.1 k 0 (by rw [uW_get g.1 E hk, he]; rfl) rfl (vp_inZ h0 h1 hN) hdg ?_
  have e : (((iV z).toNatClampNeg : Nat) : Int) = z := by rw [iV_clamp (by omega)]; omega
  rw [e]
  exact kk
theorem u_zald (X : uX p d R s m args c cc nL own) (Y : uY g n E s H locs) {k : Nat} (hk : k < n) {N : Nat} {f : Int → Int} (he : E k = aV g.2.2.2.1 N f) {z : Int} (h0 : 0 ≤ z) (h1 : z < N) (hN : (N : Int) ≤ 2147483647) (hdg : decode cc pc = .ok (.baload, 1))
    (kk : W p l e R s m args below meth c H locs cells slots Q (F0 m (pc + 1) ls (.int (iV (f z)) :: rest))) : W p l e R s m args below meth c H locs cells slots Q (F0 m pc ls (.int (iV z) :: .ref (g.1 + k) :: rest)) := by
  refine va_zald X.1 X.2.1 Y.2.1 Y.1 k 1 (by rw [uW_get g.1 E hk, he]; rfl) rfl (vp_inZ h0 h1 hN) hdg ?_
  have e : (((iV z).toNatClampNeg : Nat) : Int) = z := by rw [iV_clamp (by omega)]; omega
  rw [e]
  exact kk
theorem aV_at {g : uG} {a : Nat} {cA : ClassId} {N : Nat} {f : Int → Int} {H H1 : Heap} {i : Nat} {z : Int} (h1 : H1[a]? = some ((vp_cell cA (N, .inl (fun j => iV (f j)))).setSlot i (.int (iV z)))) : va_at g.2.1 vwCl (a, aV cA N (up1 f (i : Int) z)) H1 := by
  show H1[a]? = some (vp_cell _ _)
  rw [h1, vp_cell_i, vp_cell_i, arrV_store]
  congr 2
  funext q
  by_cases hq : q = i
  · subst hq
    simp [updV, up1]
  · have hq' : ¬ ((q : Int) = (i : Int)) := by omega
    simp [updV, up1, hq, hq']
theorem u_iast (X : uX p d R s m args c cc nL own) (Y : uY g n E s H locs) {k : Nat} (hk : k < n) {N : Nat} {f : Int → Int} (he : E k = aV g.2.2.1 N f) {z x : Int} (h0 : 0 ≤ z) (h1 : z < N) (hN : (N : Int) ≤ 2147483647) (hdg : decode cc pc = .ok (.iastore, 1))
    (kk : ∀ (H1 : Heap) (locs1 : List Loc), uY g n (va_up E k (aV g.2.2.1 N (up1 f z x))) s H1 locs1 → W p l e R s m args below meth c H1 locs1 cells slots Q (F0 m (pc + 1) ls rest)) : W p l e R s m args below meth c H locs cells slots Q (F0 m pc ls (.int (iV x) :: .int (iV z) :: .ref (g.1 + k) :: rest)) := by
  have hin := vp_inZ h0 h1 hN
  have e0 : (((iV z).toNatClampNeg : Nat) : Int) = z := by rw [iV_clamp (by omega)]; omega
  refine W.iast X.1 X.2.1 (show H[g.1 + k]? = some (vp_cell g.2.2.1 (N, .inl (fun j => iV (f j)))) from Y.1 k (g.1 + k, .inl (g.2.2.1, N, .inl (fun j => iV (f j)))) (by rw [uW_get g.1 E hk, he]; rfl)) ((Y.2.1.2 0 (g.2.2.1, .int) rfl).1 N (fun j => .int (iV (f j)))) (fun q => by cases q) (by show ¬ (_ ∨ (arrV _ _ _).slots.size ≤ _); rw [arrV_size]; exact hin) rfl rfl hdg fun H1 e z2 oq => ?_
  refine kk H1 _ (Y.wr hk _ ?_ z2 oq)
  have h := aV_at (g := g) (H := H) e
  rw [e0] at h
  exact h
theorem u_zast (X : uX p d R s m args c cc nL own) (Y : uY g n E s H locs) {k : Nat} (hk : k < n) {N : Nat} {f : Int → Int} (he : E k = aV g.2.2.2.1 N f) {z x : Int} (hx : narrow .boolean (.int (iV x)) = .int (iV x)) (h0 : 0 ≤ z) (h1 : z < N) (hN : (N : Int) ≤ 2147483647) (hdg : decode cc pc = .ok (.bastore, 1))
    (kk : ∀ (H1 : Heap) (locs1 : List Loc), uY g n (va_up E k (aV g.2.2.2.1 N (up1 f z x))) s H1 locs1 → W p l e R s m args below meth c H1 locs1 cells slots Q (F0 m (pc + 1) ls rest)) : W p l e R s m args below meth c H locs cells slots Q (F0 m pc ls (.int (iV x) :: .int (iV z) :: .ref (g.1 + k) :: rest)) := by
  have hin := vp_inZ h0 h1 hN
  have e0 : (((iV z).toNatClampNeg : Nat) : Int) = z := by rw [iV_clamp (by omega)]; omega
  refine W.zast X.1 X.2.1 (show H[g.1 + k]? = some (vp_cell g.2.2.2.1 (N, .inl (fun j => iV (f j)))) from Y.1 k (g.1 + k, .inl (g.2.2.2.1, N, .inl (fun j => iV (f j)))) (by rw [uW_get g.1 E hk, he]; rfl)) ((Y.2.1.2 1 (g.2.2.2.1, .boolean) rfl).1 N (fun j => .int (iV (f j)))) (fun q => by cases q) (by show ¬ (_ ∨ (arrV _ _ _).slots.size ≤ _); rw [arrV_size]; exact hin) rfl rfl hdg fun H1 e z2 oq => ?_
  refine kk H1 _ (Y.wr hk _ ?_ z2 oq)
  rw [hx] at e
  have h := aV_at (g := g) (H := H) e
  rw [e0] at h
  exact h
theorem u_ilen (X : uX p d R s m args c cc nL own) (Y : uY g n E s H locs) {k : Nat} (hk : k < n) {N : Nat} {f : Int → Int} (he : E k = aV g.2.2.1 N f) (hdg : decode cc pc = .ok (.arraylength, 1))
    (kk : W p l e R s m args below meth c H locs cells slots Q (F0 m (pc + 1) ls (.int (iV N) :: rest))) : W p l e R s m args below meth c H locs cells slots Q (F0 m pc ls (.ref (g.1 + k) :: rest)) :=
  va_alen X.1 X.2.1 Y.2.1 Y.1 k 0 (show (uW g.1 n E)[k]? = some (g.1 + k, .inl (g.2.2.1, N, .inl (fun j => iV (f j)))) by rw [uW_get g.1 E hk, he]; rfl) rfl (Int32.ofInt_eq_ofNat).symm hdg kk
/-- an array of references -/
def qV (cA : ClassId) (n : Nat) (f : Nat → Option Nat) : va_E := .inl (cA, n, .inr (.inr (.inr (.inr f))))
theorem u_aald (X : uX p d R s m args c cc nL own) (Y : uY g n E s H locs) {k : Nat} (hk : k < n) {N : Nat} {f : Nat → Option Nat} (he : E k = qV g.2.2.2.2 N f) {z : Int} (h0 : 0 ≤ z) (h1 : z < N) (hN : (N : Int) ≤ 2147483647) {v : Nat} (hv : f z.toNat = some v) (hdg : decode cc pc = .ok (.aaload, 1))
    (kk : W p l e R s m args below meth c H locs cells slots Q (F0 m (pc + 1) ls (.ref v :: rest))) : W p l e R s m args below meth c H locs cells slots Q (F0 m pc ls (.int (iV z) :: .ref (g.1 + k) :: rest)) := by
  refine va_aldq X.1 X.2.1 Y.2.1 Y.1 k 2 (by rw [uW_get g.1 E hk, he]; rfl) rfl (vp_inZ h0 h1 hN) hdg ?_
  rw [iV_clamp (by omega), hv]
  exact kk
theorem u_alen (X : uX p d R s m args c cc nL own) (Y : uY g n E s H locs) {k : Nat} (hk : k < n) {N : Nat} {f : Nat → Option Nat} (he : E k = qV g.2.2.2.2 N f) (hdg : decode cc pc = .ok (.arraylength, 1))
    (kk : W p l e R s m args below meth c H locs cells slots Q (F0 m (pc + 1) ls (.int (iV N) :: rest))) : W p l e R s m args below meth c H locs cells slots Q (F0 m pc ls (.ref (g.1 + k) :: rest)) :=
  va_alen X.1 X.2.1 Y.2.1 Y.1 k 2 (show (uW g.1 n E)[k]? = some (g.1 + k, .inl (g.2.2.2.2, N, .inr (.inr (.inr (.inr f))))) by rw [uW_get g.1 E hk, he]; rfl) rfl (Int32.ofInt_eq_ofNat).symm hdg kk
-- Math
theorem if_lt_max {a b : Int} (ha : inI a) (hb : inI b) : (if iV a < iV b then iV b else iV a) = iV (max a b) := by
  by_cases h : a < b
  · rw [if_pos ((iV_lt ha hb).mpr h), show max a b = b by omega]
  · rw [if_neg (fun q => h ((iV_lt ha hb).mp q)), show max a b = a by omega]
theorem if_lt_min {a b : Int} (ha : inI a) (hb : inI b) : (if iV b < iV a then iV b else iV a) = iV (min a b) := by
  by_cases h : b < a
  · rw [if_pos ((iV_lt hb ha).mpr h), show min a b = b by omega]
  · rw [if_neg (fun q => h ((iV_lt hb ha).mp q)), show min a b = a by omega]
theorem r_max (X : uX p d R s m args c cc nL own) (hl : lv_has ls nL lv) (hd : 1 ≤ d) (hc : cells ≤ R.cells) (hs : slots ≤ R.slots) {index : Nat} (hlink : Cond.methodLink own index Lib.Math.max.name ∈ T0) (hr : (rest.map fun v => v.category).sum ≤ 8) {a b : Int} (hdg : decode cc pc = .ok (.invokestatic index, 3)) (ha : inI a) (hb : inI b)
    (kk : W p l e R s m args below meth c H locs cells slots Q (F0 m (pc + 3) ls (.int (iV (max a b)) :: rest))) : W p l e R s m args below meth c H locs cells slots Q (F0 m pc ls (.int (iV b) :: .int (iV a) :: rest)) :=
  va_mmax X.1 X.2.1 (X.2.2.1.trans hl.1.symm) X.2.2.2.1 (X.w hlink) (X.w wm_87) (X.w wm_63) (X.w wm_88) (by have := X.2.2.2.2.2.1; omega) (by have := X.2.2.2.2.2.2; omega) hc hs hdg (by rw [if_lt_max ha hb]; exact kk)
theorem r_min (X : uX p d R s m args c cc nL own) (hl : lv_has ls nL lv) (hd : 1 ≤ d) (hc : cells ≤ R.cells) (hs : slots ≤ R.slots) {index : Nat} (hlink : Cond.methodLink own index Lib.Math.min.name ∈ T0) (hr : (rest.map fun v => v.category).sum ≤ 8) {a b : Int} (hdg : decode cc pc = .ok (.invokestatic index, 3)) (ha : inI a) (hb : inI b)
    (kk : W p l e R s m args below meth c H locs cells slots Q (F0 m (pc + 3) ls (.int (iV (min a b)) :: rest))) : W p l e R s m args below meth c H locs cells slots Q (F0 m pc ls (.int (iV b) :: .int (iV a) :: rest)) :=
  va_mmin X.1 X.2.1 (X.2.2.1.trans hl.1.symm) X.2.2.2.1 (X.w hlink) (X.w wm_379) (X.w wm_63) (X.w wm_380) (by have := X.2.2.2.2.2.1; omega) (by have := X.2.2.2.2.2.2; omega) hc hs hdg (by rw [if_lt_min ha hb]; exact kk)
end ROWS
end
section
/-! contracts: what a method's end says; its entry; calls -/
def uQi {S : Type} (g : uG) (n' : S → Nat) (w : S → Nat → va_E) (post : Int → S → Prop) : Array Value → State → Outcome → State → Prop := va_Qi (fun (r : Int32) (u : S) => ∃ z : Int, r = iV z ∧ post z u) (fun u t => uB g (n' u) (w u) t) (uA g)
def uQl {S : Type} (g : uG) (n' : S → Nat) (w : S → Nat → va_E) (post : Int → S → Prop) : Array Value → State → Outcome → State → Prop := va_Ql (fun (r : Int64) (u : S) => ∃ z : Int, r = lV z ∧ post z u) (fun u t => uB g (n' u) (w u) t) (uA g)
def uQv {S : Type} (g : uG) (n' : S → Nat) (w : S → Nat → va_E) (post : S → Prop) : Array Value → State → Outcome → State → Prop := va_Qv post (fun u t => uB g (n' u) (w u) t) (uA g)
def uQq {S : Type} (g : uG) (n' : S → Nat) (w : S → Nat → va_E) (post : Option Nat → S → Prop) : Array Value → State → Outcome → State → Prop := va_Qq post (fun u t => uB g (n' u) (w u) t) (uA g)
/-- a contract: the depth d, the arguments, the universe (n, E), the end -/
def uM (l : Launch) (y : MethodName) (cc : ByteArray) (mL : Nat) (ret : Option FieldType) (d mc ms : Nat) (g : uG) (argv : List Value) (n : Nat) (E : Nat → va_E) (Qc : Array Value → State → Outcome → State → Prop) : Prop := Met l y (uU y cc mL ret) (uR d mc ms) (va_Pc argv (uB g n E)) Qc mc ms (uA g)
theorem u_blind (g : uG) (n : Nat) (E : Nat → va_E) (argv : List Value) : FrameBlind (va_Pc argv (uB g n E)) := fun a U f mk q => ⟨q.1, uB.calling a U f mk q.2⟩
theorem u_ent {l : Launch} {y : MethodName} {cc : ByteArray} {mL : Nat} {ret : Option FieldType} {d mc ms : Nat} {g : uG} {argv : List Value} {n : Nat} {E : Nat → va_E} {Qc : Array Value → State → Outcome → State → Prop}
    (hy : plainName y.cls = true) (hlen : (lg_sl argv).length ≤ mL)
    (body : ∀ (p : Program) (e : Env) (s : State) (m : MethodId) (below : List Frame) (meth : Method) (c : Code) (ls : Array Slot), uX p d (uR d mc ms) s m argv.toArray c cc mL y.cls → meth.sig.returnType = ret → meth.locks = false → meth.name = y.name → uY g n E s s.heap [] → lv_has ls mL (lv_args 0 argv) → W p l e (uR d mc ms) s m argv.toArray below meth c s.heap [] 0 0 (MQ below Qc argv.toArray s mc ms (uA g)) (F0 m 0 ls [])) :
    uM l y cc mL ret d mc ms g argv n E Qc := by
  refine Met.ofW (cc := cc) (maxL := mL) (ret := ret) hy rfl ?_
  intro p e s m args below meth c s₁ B hml hv
  obtain ⟨rfl, hB⟩ := hv
  have hts := atoms_spec (ws := uU y cc mL ret) B.pre
  have hown : s.vm.findClass y.cls = some m.cls := findClass_of_methodNamed B.named
  have hnm : meth.name = y.name := (name_of_methodNamed B.named B.method).1
  have hl := lv_entry argv (n := mL) hlen
  rw [lg_entry_eq]
  exact body p e s m below meth c _ ⟨B.exec, B.bytes, hml, hown, fun w h => hts w (List.mem_cons_of_mem _ h), Nat.le_refl _, Nat.le_refl _⟩ B.returns B.notSynchronized hnm (uY.ent hB) hl
section ENT
variable {l : Launch} {y : MethodName} {cc : ByteArray} {mL : Nat} {d mc ms : Nat} {g : uG} {argv : List Value} {n : Nat} {E : Nat → va_E} {S : Type} {n' : S → Nat} {w : S → Nat → va_E}
theorem u_ent_i {post : Int → S → Prop} (hy : plainName y.cls = true) (hlen : (lg_sl argv).length ≤ mL)
    (body : ∀ (p : Program) (e : Env) (R : Room) (s : State) (m : MethodId) (args : Array Value) (below : List Frame) (meth : Method) (c : Code) (Q : State → Prop) (ls : Array Slot), uX p d R s m args c cc mL y.cls → uY g n E s s.heap [] → lv_has ls mL (lv_args 0 argv) →
      (∀ (pc : Nat) (H : Heap) (locs : List Loc) (ls : Array Slot) (z : Int) (u : S), decode cc pc = .ok (.ireturn, 1) → uY g (n' u) (w u) s H locs → post z u → W p l e R s m args below meth c H locs 0 0 Q (F0 m pc ls [.int (iV z)])) →
      W p l e R s m args below meth c s.heap [] 0 0 Q (F0 m 0 ls [])) : uM l y cc mL (some .int) d 0 0 g argv n E (uQi g n' w post) := by
  refine u_ent hy hlen fun p e s m below meth c ls X hr hlocks hnm Y hl => body p e _ s m _ below meth c _ ls X Y hl fun pc H locs ls z u hdg Y2 hp => ?_
  exact W.iret X.1 X.2.1 hr (fun t ht hW => ⟨⟨iV z, u, rfl, ⟨z, rfl, hp⟩, (Y2.out ht hW).1⟩, (Y2.out ht hW).2⟩) Y2.2.2.2.1.2.2 hdg
theorem u_ent_z {post : Int → S → Prop} (hy : plainName y.cls = true) (hlen : (lg_sl argv).length ≤ mL)
    (body : ∀ (p : Program) (e : Env) (R : Room) (s : State) (m : MethodId) (args : Array Value) (below : List Frame) (meth : Method) (c : Code) (Q : State → Prop) (ls : Array Slot), uX p d R s m args c cc mL y.cls → uY g n E s s.heap [] → lv_has ls mL (lv_args 0 argv) →
      (∀ (pc : Nat) (H : Heap) (locs : List Loc) (ls : Array Slot) (z : Int) (u : S), decode cc pc = .ok (.ireturn, 1) → uY g (n' u) (w u) s H locs → (z = 0 ∨ z = 1) → post z u → W p l e R s m args below meth c H locs 0 0 Q (F0 m pc ls [.int (iV z)])) →
      W p l e R s m args below meth c s.heap [] 0 0 Q (F0 m 0 ls [])) : uM l y cc mL (some .boolean) d 0 0 g argv n E (uQi g n' w post) := by
  refine u_ent hy hlen fun p e s m below meth c ls X hr hlocks hnm Y hl => body p e _ s m _ below meth c _ ls X Y hl fun pc H locs ls z u hdg Y2 hz hp => ?_
  exact W.zret X.1 X.2.1 hr (by rcases hz with rfl | rfl <;> rfl) (fun t ht hW => ⟨⟨iV z, u, rfl, ⟨z, rfl, hp⟩, (Y2.out ht hW).1⟩, (Y2.out ht hW).2⟩) Y2.2.2.2.1.2.2 hdg
theorem u_ent_l {post : Int → S → Prop} (hy : plainName y.cls = true) (hlen : (lg_sl argv).length ≤ mL)
    (body : ∀ (p : Program) (e : Env) (R : Room) (s : State) (m : MethodId) (args : Array Value) (below : List Frame) (meth : Method) (c : Code) (Q : State → Prop) (ls : Array Slot), uX p d R s m args c cc mL y.cls → uY g n E s s.heap [] → lv_has ls mL (lv_args 0 argv) →
      (∀ (pc : Nat) (H : Heap) (locs : List Loc) (ls : Array Slot) (z : Int) (u : S), decode cc pc = .ok (.lreturn, 1) → uY g (n' u) (w u) s H locs → post z u → W p l e R s m args below meth c H locs 0 0 Q (F0 m pc ls [.long (lV z)])) →
      W p l e R s m args below meth c s.heap [] 0 0 Q (F0 m 0 ls [])) : uM l y cc mL (some .long) d 0 0 g argv n E (uQl g n' w post) := by
  refine u_ent hy hlen fun p e s m below meth c ls X hr hlocks hnm Y hl => body p e _ s m _ below meth c _ ls X Y hl fun pc H locs ls z u hdg Y2 hp => ?_
  exact W.lret X.1 X.2.1 hr (fun t ht hW => ⟨⟨lV z, u, rfl, ⟨z, rfl, hp⟩, (Y2.out ht hW).1⟩, (Y2.out ht hW).2⟩) Y2.2.2.2.1.2.2 hdg
theorem u_ent_v {post : S → Prop} (hy : plainName y.cls = true) (hlen : (lg_sl argv).length ≤ mL)
    (body : ∀ (p : Program) (e : Env) (R : Room) (s : State) (m : MethodId) (args : Array Value) (below : List Frame) (meth : Method) (c : Code) (Q : State → Prop) (ls : Array Slot), uX p d R s m args c cc mL y.cls → mc ≤ R.cells ∧ ms ≤ R.slots → meth.name = y.name → uY g n E s s.heap [] → lv_has ls mL (lv_args 0 argv) →
      (∀ (pc : Nat) (H : Heap) (locs : List Loc) (ls : Array Slot) (u : S), decode cc pc = .ok (.return_, 1) → uY g (n' u) (w u) s H locs → post u → W p l e R s m args below meth c H locs mc ms Q (F0 m pc ls [])) →
      W p l e R s m args below meth c s.heap [] 0 0 Q (F0 m 0 ls [])) : uM l y cc mL none d mc ms g argv n E (uQv g n' w post) := by
  refine u_ent hy hlen fun p e s m below meth c ls X hr hlocks hnm Y hl => body p e _ s m _ below meth c _ ls X ⟨Nat.le_refl _, Nat.le_refl _⟩ hnm Y hl fun pc H locs ls u hdg Y2 hp => ?_
  exact W.vret X.1 X.2.1 hr (fun t ht hW => ⟨⟨u, rfl, hp, (Y2.out ht hW).1⟩, (Y2.out ht hW).2⟩) Y2.2.2.2.1.2.2 hdg
theorem u_ent_q {C : String} {post : Option Nat → S → Prop} (hy : plainName y.cls = true) (hlen : (lg_sl argv).length ≤ mL)
    (body : ∀ (p : Program) (e : Env) (R : Room) (s : State) (m : MethodId) (args : Array Value) (below : List Frame) (meth : Method) (c : Code) (Q : State → Prop) (ls : Array Slot), uX p d R s m args c cc mL y.cls → uY g n E s s.heap [] → lv_has ls mL (lv_args 0 argv) →
      (∀ (pc : Nat) (H : Heap) (locs : List Loc) (ls : Array Slot) (r : Option Nat) (v : Value) (u : S), decode cc pc = .ok (.areturn, 1) → v = va_rf r → uY g (n' u) (w u) s H locs → post r u → W p l e R s m args below meth c H locs 0 0 Q (F0 m pc ls [v])) →
      W p l e R s m args below meth c s.heap [] 0 0 Q (F0 m 0 ls [])) : uM l y cc mL (some (.object C)) d 0 0 g argv n E (uQq g n' w post) := by
  refine u_ent hy hlen fun p e s m below meth c ls X hr hlocks hnm Y hl => body p e _ s m _ below meth c _ ls X Y hl fun pc H locs ls r v u hdg hv Y2 hp => ?_
  subst hv
  exact W.aret X.1 X.2.1 hr (Or.inl ⟨_, rfl⟩) (by cases r with
    | none => exact Or.inl rfl
    | some a => exact Or.inr ⟨a, rfl⟩) (fun t ht hW => ⟨⟨r, u, rfl, hp, (Y2.out ht hW).1⟩, (Y2.out ht hW).2⟩) Y2.2.2.2.1.2.2 hdg
end ENT
section CALLS
variable {p : Program} {l : Launch} {e : Env} {R : Room} {s : State} {m : MethodId} {args : Array Value} {below : List Frame} {meth : Method} {c : Code} {H : Heap} {locs : List Loc} {cells slots : Nat} {Q : State → Prop}
variable {cc : ByteArray} {pc d nL : Nat} {own : String} {ls : Array Slot} {lv : List (Nat × Value)} {rest : List Value} {g : uG} {n : Nat} {E : Nat → va_E}
variable {S : Type} {n' : S → Nat} {w : S → Nat → va_E} {y : MethodName} {C : String} {cc2 : ByteArray} {mL np idx d2 mc ms : Nat} {ret : Option FieldType} {b : Nat} {As : List Value} {Qc : Array Value → State → Outcome → State → Prop}
theorem u_recv (Y : uY g n E s H locs) {k : Nat} (hk : k < n) {ci : Nat} {fs : List Value} (he : E k = .inr (ci, fs)) {T : u_T} {N : Nat} (hc : vwCl[ci]? = some (C, T, N)) : ∃ cell : Cell, H[g.1 + k]? = some cell ∧ cell.vm.isStatics = false ∧ s.vm.findClass C = some cell.cls :=
  va_recv (q0 := k) Y.2.1 Y.1 hc (by rw [uW_get g.1 E hk, he])
theorem u_runV (X : uX p d R s m args c cc nL own) (Y : uY g n E s H locs) (hM : uM l y cc2 mL ret d2 mc ms g (.ref b :: As) n E Qc) (K : uK y C cc2 mL ret np) (hi : Cond.instanceMethod y ∈ T0 ∧ Cond.selects C y y ∈ T0) (hl : Cond.methodLink own idx y ∈ T0) (hd : d2 + 1 ≤ d) (hrecv : ∃ cell : Cell, H[b]? = some cell ∧ cell.vm.isStatics = false ∧ s.vm.findClass C = some cell.cls) (hn : As.length = np) (hlv : lv_has ls nL lv) (hW : (rest.map fun v => v.category).sum ≤ 8) {st : List Value} (hst : st = As.reverse ++ .ref b :: rest) (hdg : decode cc pc = .ok (.invokevirtual idx, 3)) (hf : cells + mc ≤ R.cells ∧ slots + ms ≤ R.slots) :
    va_Run p l e R s m args below meth c H locs cells slots mc ms (F0 m pc ls st) rest (Qc (Value.ref b :: As).toArray) (uA g) := by
  obtain ⟨⟨k2, k4⟩, k5, k6, k7⟩ := K
  have hX1 := X.2.2.2.2.2.1
  have hX2 := X.2.2.2.2.2.2
  exact va_runV X.fix hM ⟨callB_of np X.fix.2.2.2.2 (uU_good k4) rfl rfl rfl (X.w (by rw [k5]; exact k2)) (X.w hl) k6 ⟨by show d2 + 1 ≤ _; omega, by show 8 + (mL + 11) + 40 * d2 ≤ _; omega⟩, X.w hi.1, X.w hi.2⟩ ⟨u_blind _ _ _ _, hrecv, fun U hU hW => ⟨rfl, Y.pre hU hW⟩⟩ rfl hn hlv.1 hst (lv_room hW) hdg hf
theorem u_runS (X : uX p d R s m args c cc nL own) (Y : uY g n E s H locs) (hM : uM l y cc2 mL ret d2 mc ms g As n E Qc) (K : uK y C cc2 mL ret np) (hi : Cond.static y ∈ T0) (hl : Cond.methodLink own idx y ∈ T0) (hd : d2 + 1 ≤ d) (hn : As.length = np) (hlv : lv_has ls nL lv) (hW : (rest.map fun v => v.category).sum ≤ 8) {st : List Value} (hst : st = As.reverse ++ rest) (hdg : decode cc pc = .ok (.invokestatic idx, 3)) (hf : cells + mc ≤ R.cells ∧ slots + ms ≤ R.slots) :
    va_Run p l e R s m args below meth c H locs cells slots mc ms (F0 m pc ls st) rest (Qc As.toArray) (uA g) := by
  obtain ⟨⟨k2, k4⟩, k5, k6, k7⟩ := K
  have hX1 := X.2.2.2.2.2.1
  have hX2 := X.2.2.2.2.2.2
  exact va_runS X.fix hM ⟨callB_of np X.fix.2.2.2.2 (uU_good k4) rfl rfl rfl (X.w (by rw [k5]; exact k2)) (X.w hl) k6 ⟨by show d2 + 1 ≤ _; omega, by show 8 + (mL + 11) + 40 * d2 ≤ _; omega⟩, X.w hi⟩ ⟨u_blind _ _ _ _, fun U hU hW => ⟨rfl, Y.pre hU hW⟩⟩ rfl hn hlv.1 hst (lv_room hW) hdg hf
theorem u_runI (X : uX p d R s m args c cc nL own) (Y : uY g n E s H locs) (hM : uM l y cc2 mL none d2 mc ms g (.ref b :: As) n E Qc) (K : uK y C cc2 mL none np) (hi : Cond.instanceMethod y ∈ T0) (hy : y.name = "<init>") (hl : Cond.methodLink own idx y ∈ T0) (hd : d2 + 1 ≤ d) (hn : As.length = np) (hlv : lv_has ls nL lv) (hW : (rest.map fun v => v.category).sum ≤ 8) {st : List Value} (hst : st = As.reverse ++ .ref b :: rest) (hdg : decode cc pc = .ok (.invokespecial idx, 3)) (hf : cells + mc ≤ R.cells ∧ slots + ms ≤ R.slots) :
    va_Run p l e R s m args below meth c H locs cells slots mc ms (F0 m pc ls st) rest (Qc (Value.ref b :: As).toArray) (uA g) := by
  obtain ⟨⟨k2, k4⟩, k5, k6, k7⟩ := K
  have hX1 := X.2.2.2.2.2.1
  have hX2 := X.2.2.2.2.2.2
  exact va_runI X.fix hM ⟨callB_of np X.fix.2.2.2.2 (uU_good k4) rfl rfl rfl (X.w (by rw [k5]; exact k2)) (X.w hl) k6 ⟨by show d2 + 1 ≤ _; omega, by show 8 + (mL + 11) + 40 * d2 ≤ _; omega⟩, hy, X.w hi⟩ ⟨u_blind _ _ _ _, fun U hU hW => ⟨rfl, Y.pre hU hW⟩⟩ rfl hn hlv.1 hst (lv_room hW) hdg hf
theorem u_runIN (X : uX p d R s m args c cc nL own) (Y : uY g n E s H locs) (hM : uM l y cc2 mL none d2 mc ms g (.ref b :: As) n E Qc) (K : uK y C cc2 mL none np) (hi : Cond.instanceMethod y ∈ T0) (hy : y.name = "<init>") {host : String} (hl : va_Nw (.methodLinkNest own idx y host) s) (hd : d2 + 1 ≤ d) (hn : As.length = np) (hlv : lv_has ls nL lv) (hW : (rest.map fun v => v.category).sum ≤ 8) {st : List Value} (hst : st = As.reverse ++ .ref b :: rest) (hdg : decode cc pc = .ok (.invokespecial idx, 3)) (hf : cells + mc ≤ R.cells ∧ slots + ms ≤ R.slots) :
    va_Run p l e R s m args below meth c H locs cells slots mc ms (F0 m pc ls st) rest (Qc (Value.ref b :: As).toArray) (uA g) := by
  obtain ⟨⟨k2, k4⟩, k5, k6, k7⟩ := K
  have hX1 := X.2.2.2.2.2.1
  have hX2 := X.2.2.2.2.2.2
  exact va_runIN X.fix hM ⟨va_cnB np X.fix.2.2.2.2 (uU_good k4) rfl rfl rfl hl (X.w (by rw [k5]; exact k2)) k6 ⟨by show d2 + 1 ≤ _; omega, by show 8 + (mL + 11) + 40 * d2 ≤ _; omega⟩, hy, X.w hi⟩ ⟨u_blind _ _ _ _, fun U hU hW => ⟨rfl, Y.pre hU hW⟩⟩ rfl hn hlv.1 hst (lv_room hW) hdg hf
/-- behind a call -/
theorem u_bi {post : Int → S → Prop} (Y : uY g n E s H locs) {a : Array Value} {st : List Value} (hr : va_Run p l e R s m args below meth c H locs cells slots mc ms (F0 m pc ls st) rest (uQi g n' w post a) (uA g))
    (kk : ∀ (z : Int) (u : S) (H1 : Heap) (locs1 : List Loc), post z u → uY g (n' u) (w u) s H1 locs1 → W p l e R s m args below meth c H1 locs1 (cells + mc) (slots + ms) Q (F0 m (pc + 3) ls (.int (iV z) :: rest))) : W p l e R s m args below meth c H locs cells slots Q (F0 m pc ls st) :=
  va_calli hr Y.2.2.2.1 (fun q _ h => h) (fun q h => h) fun r u t H1 locs1 ht hvm hp hB hz hk hS => by
    obtain ⟨z, rfl, hp⟩ := hp
    exact kk z u H1 locs1 hp (Y.back hB ht hvm hS)
theorem u_bl {post : Int → S → Prop} (Y : uY g n E s H locs) {a : Array Value} {st : List Value} (hr : va_Run p l e R s m args below meth c H locs cells slots mc ms (F0 m pc ls st) rest (uQl g n' w post a) (uA g))
    (kk : ∀ (z : Int) (u : S) (H1 : Heap) (locs1 : List Loc), post z u → uY g (n' u) (w u) s H1 locs1 → W p l e R s m args below meth c H1 locs1 (cells + mc) (slots + ms) Q (F0 m (pc + 3) ls (.long (lV z) :: rest))) : W p l e R s m args below meth c H locs cells slots Q (F0 m pc ls st) :=
  va_calll hr Y.2.2.2.1 (fun q _ h => h) (fun q h => h) fun r u t H1 locs1 ht hvm hp hB hz hk hS => by
    obtain ⟨z, rfl, hp⟩ := hp
    exact kk z u H1 locs1 hp (Y.back hB ht hvm hS)
theorem u_bv {post : S → Prop} (Y : uY g n E s H locs) {a : Array Value} {st : List Value} (hr : va_Run p l e R s m args below meth c H locs cells slots mc ms (F0 m pc ls st) rest (uQv g n' w post a) (uA g))
    (kk : ∀ (u : S) (H1 : Heap) (locs1 : List Loc), post u → uY g (n' u) (w u) s H1 locs1 → W p l e R s m args below meth c H1 locs1 (cells + mc) (slots + ms) Q (F0 m (pc + 3) ls rest)) : W p l e R s m args below meth c H locs cells slots Q (F0 m pc ls st) :=
  va_callv hr Y.2.2.2.1 (fun q _ h => h) (fun q h => h) fun u t H1 locs1 ht hvm hp hB hz hk hS => kk u H1 locs1 hp (Y.back hB ht hvm hS)
theorem u_bq {post : Option Nat → S → Prop} (Y : uY g n E s H locs) {a : Array Value} {st : List Value} (hr : va_Run p l e R s m args below meth c H locs cells slots mc ms (F0 m pc ls st) rest (uQq g n' w post a) (uA g))
    (kk : ∀ (r : Option Nat) (u : S) (H1 : Heap) (locs1 : List Loc), post r u → uY g (n' u) (w u) s H1 locs1 → W p l e R s m args below meth c H1 locs1 (cells + mc) (slots + ms) Q (F0 m (pc + 3) ls (va_rf r :: rest))) : W p l e R s m args below meth c H locs cells slots Q (F0 m pc ls st) :=
  va_callq hr Y.2.2.2.1 (fun q _ h => h) (fun q h => h) fun r u t H1 locs1 ht hvm hp hB hz hk hS => kk r u H1 locs1 hp (Y.back hB ht hvm hS)
/-- Object's own constructor -/
theorem u_obj (X : uX p d R s m args c cc nL own) (hlv : lv_has ls nL lv) (hd : 1 ≤ d) (hl : Cond.methodLink own idx objectInit ∈ T0) {a : Nat} (hr : (rest.map fun v => v.category).sum ≤ 8) (hdg : decode cc pc = .ok (.invokespecial idx, 3))
    (kk : W p l e R s m args below meth c H locs cells slots Q (F0 m (pc + 3) ls rest)) : W p l e R s m args below meth c H locs cells slots Q (F0 m pc ls (.ref a :: rest)) :=
  W.objInit X.1 X.2.1 X.2.2.2.1 (X.w hl) (X.w wm_78) (X.w wm_79) rfl (hlv.1.trans X.2.2.1.symm) rfl hdg (by have := X.2.2.2.2.2.1; omega) (by have := X.2.2.2.2.2.2; show 2 * 0 + _ + 12 ≤ _; omega) kk
end CALLS
end
section
/-! the universe of 117 cells after the two constructors: what each holds, out of a table of numbers t (by cell and field) and a table f (by array cell and place) -/
def kdL : List Nat := [7, 5, 10, 3, 6, 5, 10, 5, 10, 5, 10, 6, 5, 10, 5, 10, 5, 10, 4, 5, 10, 1, 12, 4, 5, 10, 4, 5, 10, 4, 5, 10, 4, 5, 10, 4, 5, 10, 4, 5, 10, 4, 5, 10, 4, 5, 10, 4, 5, 10, 4, 5, 10, 4, 5, 10, 4, 5, 10, 4, 5, 10, 4, 5, 10, 4, 5, 10, 4, 5, 10, 4, 5, 10, 4, 5, 10, 4, 5, 10, 4, 5, 10, 0, 4, 5, 10, 0, 4, 5, 10, 2, 5, 10, 5, 10, 5, 10, 5, 10, 8, 10, 11, 10, 10, 10, 10, 10, 10, 10, 10, 10, 10, 10, 10, 10, 10]
def kd (k : Nat) : Nat := kdL.getD k 99
def alL : List Nat := [0, 0, 220, 0, 0, 0, 4, 0, 21, 0, 10, 0, 0, 4, 0, 21, 0, 10, 0, 0, 40, 0, 0, 0, 0, 40, 0, 0, 40, 0, 0, 40, 0, 0, 40, 0, 0, 40, 0, 0, 40, 0, 0, 40, 0, 0, 40, 0, 0, 40, 0, 0, 40, 0, 0, 40, 0, 0, 40, 0, 0, 40, 0, 0, 40, 0, 0, 40, 0, 0, 40, 0, 0, 40, 0, 0, 40, 0, 0, 40, 0, 0, 40, 0, 0, 0, 40, 0, 0, 0, 40, 0, 0, 7, 0, 7, 0, 12, 0, 15, 0, 1008, 2, 7, 7, 7, 5, 5, 220, 4, 21, 10, 9, 9, 6, 6, 15]
def al (k : Nat) : Nat := alL.getD k 0
def twL : List Int := [0, 1, 0, 0, 0, 4, 0, 3, 0, 2, 0, 0, 4, 0, 3, 0, 2, 0, 0, 5, 0, 0, 0, 0, 5, 0, 0, 5, 0, 0, 5, 0, 0, 5, 0, 0, 5, 0, 0, 5, 0, 0, 5, 0, 0, 5, 0, 0, 5, 0, 0, 5, 0, 0, 5, 0, 0, 5, 0, 0, 5, 0, 0, 5, 0, 0, 5, 0, 0, 5, 0, 0, 5, 0, 0, 5, 0, 0, 5, 0, 0, 5, 0, 0, 0, 5, 0, 0, 0, 5, 0, 0, 1, 0, 1, 0, 2, 0, 1, 0, 0, 0, 0, 0, 0, 0, 0, 0, 0, 0, 0, 0, 0, 0, 0, 0, 0]
def tw (k : Nat) : Int := twL.getD k 0
def tmL : List Int := [0, 220, 0, 0, 0, 1, 0, 7, 0, 5, 0, 0, 1, 0, 7, 0, 5, 0, 0, 8, 0, 0, 0, 0, 8, 0, 0, 8, 0, 0, 8, 0, 0, 8, 0, 0, 8, 0, 0, 8, 0, 0, 8, 0, 0, 8, 0, 0, 8, 0, 0, 8, 0, 0, 8, 0, 0, 8, 0, 0, 8, 0, 0, 8, 0, 0, 8, 0, 0, 8, 0, 0, 8, 0, 0, 8, 0, 0, 8, 0, 0, 8, 0, 0, 0, 8, 0, 0, 0, 8, 0, 0, 7, 0, 7, 0, 6, 0, 15, 0, 0, 0, 0, 0, 0, 0, 0, 0, 0, 0, 0, 0, 0, 0, 0, 0, 0]
def tm (k : Nat) : Int := tmL.getD k 0
abbrev uN : Type := Nat → Nat → Int
abbrev uF : Type := Nat → Int → Int
def cV0 (g : uG) (k : Nat) (t : Nat → Int) : List Value := [.ref (g.1 + (k+1)), .int (iV (t 1)), .int (iV (t 2))]
def cV1 (g : uG) (k : Nat) (t : Nat → Int) : List Value := [.ref (g.1 + (k+1)), .int (iV (t 1)), .int (iV (t 2))]
def cV2 (g : uG) (k : Nat) (t : Nat → Int) : List Value := [.ref (g.1 + 11), .ref (g.1 + (k+1)), .ref (g.1 + (k+3)), .int (iV (t 3)), .int (iV (t 4)), .long (lV (t 5)), .int (iV (t 6))]
def cV3 (g : uG) (k : Nat) (t : Nat → Int) : List Value := [.ref (g.1 + 1), .ref (g.1 + (k+1)), .int (iV (t 2)), .int (iV (t 3)), .int (iV (t 4))]
def cV4 (g : uG) (k : Nat) (t : Nat → Int) : List Value := [.ref (g.1 + (k+1)), .int (iV (t 1)), .int (iV (t 2)), .int (iV (t 3)), .int (iV (t 4))]
def cV5 (g : uG) (k : Nat) (t : Nat → Int) : List Value := [.int (iV (tw k)), .int (iV (tm k)), .ref (g.1 + (k+1)), .int (iV (t 3))]
def cV6 (g : uG) (k : Nat) (t : Nat → Int) : List Value := [.ref (g.1 + (k+1)), .ref (g.1 + (k+3)), .ref (g.1 + (k+5))]
def cV7 (g : uG) (k : Nat) (t : Nat → Int) : List Value := [.ref (g.1 + 1), .ref (g.1 + 3), .ref (g.1 + 11), .ref (g.1 + 18), .ref (g.1 + 21), .ref (g.1 + 83), .ref (g.1 + 87), .ref (g.1 + 91), .ref (g.1 + 96), .ref (g.1 + 98), .int (iV (t 10)), .int (iV (t 11))]
def cV8 (g : uG) (k : Nat) (t : Nat → Int) : List Value := [.ref (g.1 + 101), .ref (g.1 + 102), .int (iV (t 2)), .int (iV (t 3)), .int (iV (t 4)), .int (iV (t 5)), .int (iV (t 6)), .ref (g.1 + 103), .ref (g.1 + 104), .ref (g.1 + 105), .int (iV (t 10)), .ref (g.1 + 106), .ref (g.1 + 107), .ref (g.1 + 108), .int (iV (t 14)), .int (iV (t 15)), .int (iV (t 16)), .int (iV (t 17)), .int (iV (t 18)), .int (iV (t 19)), .int (iV (t 20)), .ref (g.1 + 109), .int (iV (t 22)), .ref (g.1 + 110), .int (iV (t 24)), .ref (g.1 + 111), .ref (g.1 + 112), .int (iV (t 27)), .ref (g.1 + 113), .int (iV (t 29)), .long (lV (t 30)), .int (iV (t 31)), .ref (g.1 + 114), .ref (g.1 + 115), .int (iV (t 34)), .ref (g.1 + 116)]
def cXk (g : uG) (k : Nat) (t : Nat → Int) (f : Int → Int) : va_E := match kd k with
  | 0 => .inr (0, cV0 g k t)
  | 1 => .inr (1, cV1 g k t)
  | 2 => .inr (2, cV2 g k t)
  | 3 => .inr (3, cV3 g k t)
  | 4 => .inr (4, cV4 g k t)
  | 5 => .inr (5, cV5 g k t)
  | 6 => .inr (6, cV6 g k t)
  | 7 => .inr (7, cV7 g k t)
  | 8 => .inr (8, cV8 g k t)
  | 10 => aV g.2.2.1 (al k) f
  | 11 => aV g.2.2.2.1 (al k) f
  | 12 => qV g.2.2.2.2 20 (fun j => some (g.1 + (23 + 3 * j)))
  | _ => .inr (99, [])
def cX (g : uG) (t : uN) (f : uF) : Nat → va_E := fun k => cXk g k (t k) (f k)
def up2 (t : uN) (k j : Nat) (z : Int) : uN := fun k2 j2 => if k2 = k then (if j2 = j then z else t k j2) else t k2 j2
def upA (f : uF) (k : Nat) (i z : Int) : uF := fun k2 i2 => if k2 = k then up1 (f k) i z i2 else f k2 i2
theorem up2_s (t : uN) (k j : Nat) (z : Int) : up2 t k j z k j = z := by simp [up2]
theorem up2_k (t : uN) {k k2 : Nat} (j j2 : Nat) (z : Int) (h : k2 ≠ k) : up2 t k j z k2 j2 = t k2 j2 := by simp [up2, h]
theorem up2_j (t : uN) (k : Nat) {j j2 : Nat} (z : Int) (h : j2 ≠ j) : up2 t k j z k j2 = t k j2 := by simp [up2, h]
theorem upA_s (f : uF) (k : Nat) (i z : Int) : upA f k i z k i = z := by simp [upA, up1]
theorem upA_k (f : uF) {k k2 : Nat} (i i2 z : Int) (h : k2 ≠ k) : upA f k i z k2 i2 = f k2 i2 := by simp [upA, h]
theorem upA_i (f : uF) (k : Nat) {i i2 : Int} (z : Int) (h : i2 ≠ i) : upA f k i z k i2 = f k i2 := by simp [upA, up1, h]
theorem kd_lt {k c : Nat} (h : kd k = c) (hc : c < 99) : k < 117 := by
  rcases Nat.lt_or_ge k 117 with q | q
  · exact q
  · rw [kd, List.getD_eq_getElem?_getD, List.getElem?_eq_none (by exact q)] at h; subst h; simp at hc
theorem cX_up {g : uG} {t : uN} {f : uF} {k : Nat} {e : va_E} (t2 : uN) (f2 : uF) (ht : ∀ j, j ≠ k → t2 j = t j) (hf : ∀ j, j ≠ k → f2 j = f j) (h : cXk g k (t2 k) (f2 k) = e) : va_up (cX g t f) k e = cX g t2 f2 := by
  funext j
  by_cases hj : j = k
  · subst hj; rw [va_up_self]; exact h.symm
  · rw [va_up_ne _ _ hj]; show cXk g j (t j) (f j) = cXk g j (t2 j) (f2 j); rw [ht j hj, hf j hj]
theorem cX_0 {g : uG} {t : Nat → Int} {f : Int → Int} {k : Nat} (h : kd k = 0) : cXk g k t f = .inr (0, [.ref (g.1 + (k+1)), .int (iV (t 1)), .int (iV (t 2))]) := by rw [cXk, h]; rfl
theorem cX_1 {g : uG} {t : Nat → Int} {f : Int → Int} {k : Nat} (h : kd k = 1) : cXk g k t f = .inr (1, [.ref (g.1 + (k+1)), .int (iV (t 1)), .int (iV (t 2))]) := by rw [cXk, h]; rfl
theorem cX_2 {g : uG} {t : Nat → Int} {f : Int → Int} {k : Nat} (h : kd k = 2) : cXk g k t f = .inr (2, [.ref (g.1 + 11), .ref (g.1 + (k+1)), .ref (g.1 + (k+3)), .int (iV (t 3)), .int (iV (t 4)), .long (lV (t 5)), .int (iV (t 6))]) := by rw [cXk, h]; rfl
theorem cX_3 {g : uG} {t : Nat → Int} {f : Int → Int} {k : Nat} (h : kd k = 3) : cXk g k t f = .inr (3, [.ref (g.1 + 1), .ref (g.1 + (k+1)), .int (iV (t 2)), .int (iV (t 3)), .int (iV (t 4))]) := by rw [cXk, h]; rfl
theorem cX_4 {g : uG} {t : Nat → Int} {f : Int → Int} {k : Nat} (h : kd k = 4) : cXk g k t f = .inr (4, [.ref (g.1 + (k+1)), .int (iV (t 1)), .int (iV (t 2)), .int (iV (t 3)), .int (iV (t 4))]) := by rw [cXk, h]; rfl
theorem cX_5 {g : uG} {t : Nat → Int} {f : Int → Int} {k : Nat} (h : kd k = 5) : cXk g k t f = .inr (5, [.int (iV (tw k)), .int (iV (tm k)), .ref (g.1 + (k+1)), .int (iV (t 3))]) := by rw [cXk, h]; rfl
theorem cX_6 {g : uG} {t : Nat → Int} {f : Int → Int} {k : Nat} (h : kd k = 6) : cXk g k t f = .inr (6, [.ref (g.1 + (k+1)), .ref (g.1 + (k+3)), .ref (g.1 + (k+5))]) := by rw [cXk, h]; rfl
theorem cX_7 {g : uG} {t : Nat → Int} {f : Int → Int} {k : Nat} (h : kd k = 7) : cXk g k t f = .inr (7, [.ref (g.1 + 1), .ref (g.1 + 3), .ref (g.1 + 11), .ref (g.1 + 18), .ref (g.1 + 21), .ref (g.1 + 83), .ref (g.1 + 87), .ref (g.1 + 91), .ref (g.1 + 96), .ref (g.1 + 98), .int (iV (t 10)), .int (iV (t 11))]) := by rw [cXk, h]; rfl
theorem cX_8 {g : uG} {t : Nat → Int} {f : Int → Int} {k : Nat} (h : kd k = 8) : cXk g k t f = .inr (8, [.ref (g.1 + 101), .ref (g.1 + 102), .int (iV (t 2)), .int (iV (t 3)), .int (iV (t 4)), .int (iV (t 5)), .int (iV (t 6)), .ref (g.1 + 103), .ref (g.1 + 104), .ref (g.1 + 105), .int (iV (t 10)), .ref (g.1 + 106), .ref (g.1 + 107), .ref (g.1 + 108), .int (iV (t 14)), .int (iV (t 15)), .int (iV (t 16)), .int (iV (t 17)), .int (iV (t 18)), .int (iV (t 19)), .int (iV (t 20)), .ref (g.1 + 109), .int (iV (t 22)), .ref (g.1 + 110), .int (iV (t 24)), .ref (g.1 + 111), .ref (g.1 + 112), .int (iV (t 27)), .ref (g.1 + 113), .int (iV (t 29)), .long (lV (t 30)), .int (iV (t 31)), .ref (g.1 + 114), .ref (g.1 + 115), .int (iV (t 34)), .ref (g.1 + 116)]) := by rw [cXk, h]; rfl
theorem cX_10 {g : uG} {t : Nat → Int} {f : Int → Int} {k : Nat} (h : kd k = 10) : cXk g k t f = aV g.2.2.1 (al k) f := by rw [cXk, h]; rfl
theorem cX_11 {g : uG} {t : Nat → Int} {f : Int → Int} {k : Nat} (h : kd k = 11) : cXk g k t f = aV g.2.2.2.1 (al k) f := by rw [cXk, h]; rfl
theorem cX_12 {g : uG} {t : Nat → Int} {f : Int → Int} {k : Nat} (h : kd k = 12) : cXk g k t f = qV g.2.2.2.2 20 (fun j => some (g.1 + (23 + 3 * j))) := by rw [cXk, h]; rfl
theorem kd_all {P : Nat → Prop} (c : Nat) (hc : c < 99) (h : ∀ k, k < 117 → kd k = c → P k) : ∀ k, kd k = c → P k := fun k hk => h k (kd_lt hk hc) hk
theorem kr_0_0 {k : Nat} (h : kd k = 0) : kd (k+1) = 4 := kd_all (P := fun k => kd (k+1) = 4) 0 (by decide) (by decide +kernel) k h
theorem kr_1_0 {k : Nat} (h : kd k = 1) : kd (k+1) = 12 := kd_all (P := fun k => kd (k+1) = 12) 1 (by decide) (by decide +kernel) k h
theorem kr_2_0 {k : Nat} (h : kd k = 2) : kd 11 = 6 := kd_all (P := fun k => kd 11 = 6) 2 (by decide) (by decide +kernel) k h
theorem kr_2_1 {k : Nat} (h : kd k = 2) : kd (k+1) = 5 := kd_all (P := fun k => kd (k+1) = 5) 2 (by decide) (by decide +kernel) k h
theorem kr_2_2 {k : Nat} (h : kd k = 2) : kd (k+3) = 5 := kd_all (P := fun k => kd (k+3) = 5) 2 (by decide) (by decide +kernel) k h
theorem kr_3_0 {k : Nat} (h : kd k = 3) : kd 1 = 5 := kd_all (P := fun k => kd 1 = 5) 3 (by decide) (by decide +kernel) k h
theorem kr_3_1 {k : Nat} (h : kd k = 3) : kd (k+1) = 6 := kd_all (P := fun k => kd (k+1) = 6) 3 (by decide) (by decide +kernel) k h
theorem kr_4_0 {k : Nat} (h : kd k = 4) : kd (k+1) = 5 := kd_all (P := fun k => kd (k+1) = 5) 4 (by decide) (by decide +kernel) k h
theorem kr_5_2 {k : Nat} (h : kd k = 5) : kd (k+1) = 10 := kd_all (P := fun k => kd (k+1) = 10) 5 (by decide) (by decide +kernel) k h
theorem kr_6_0 {k : Nat} (h : kd k = 6) : kd (k+1) = 5 := kd_all (P := fun k => kd (k+1) = 5) 6 (by decide) (by decide +kernel) k h
theorem kr_6_1 {k : Nat} (h : kd k = 6) : kd (k+3) = 5 := kd_all (P := fun k => kd (k+3) = 5) 6 (by decide) (by decide +kernel) k h
theorem kr_6_2 {k : Nat} (h : kd k = 6) : kd (k+5) = 5 := kd_all (P := fun k => kd (k+5) = 5) 6 (by decide) (by decide +kernel) k h
theorem kd5_al {k : Nat} (h : kd k = 5) : ((al (k + 1) : Nat) : Int) = tw k * tm k := kd_all (P := fun k => ((al (k + 1) : Nat) : Int) = tw k * tm k) 5 (by decide) (by decide +kernel) k h
theorem kd5_w {k : Nat} (h : kd k = 5) : 1 ≤ tw k ∧ tw k ≤ 5 ∧ 1 ≤ tm k ∧ tm k ≤ 220 ∧ tw k * tm k ≤ 220 := kd_all (P := fun k => 1 ≤ tw k ∧ tw k ≤ 5 ∧ 1 ≤ tm k ∧ tm k ≤ 220 ∧ tw k * tm k ≤ 220) 5 (by decide) (by decide +kernel) k h
theorem kd4_w {k : Nat} (h : kd k = 4) : tw (k + 1) = 5 ∧ tm (k + 1) = 8 := kd_all (P := fun k => tw (k + 1) = 5 ∧ tm (k + 1) = 8) 4 (by decide) (by decide +kernel) k h
theorem kd6_w {k : Nat} (h : kd k = 6) : (tw (k + 1) = 4 ∧ tm (k + 1) = 1) ∧ (tw (k + 3) = 3 ∧ tm (k + 3) = 7) ∧ (tw (k + 5) = 2 ∧ tm (k + 5) = 5) := kd_all (P := fun k => (tw (k + 1) = 4 ∧ tm (k + 1) = 1) ∧ (tw (k + 3) = 3 ∧ tm (k + 3) = 7) ∧ (tw (k + 5) = 2 ∧ tm (k + 5) = 5)) 6 (by decide) (by decide +kernel) k h
theorem al_le (k : Nat) : ((al k : Nat) : Int) ≤ 2147483647 := by
  rcases Nat.lt_or_ge k 117 with q | q
  · have h : ∀ k, k < 117 → al k ≤ 1008 := by decide +kernel
    have := h k q; omega
  · rw [al, List.getD_eq_getElem?_getD, List.getElem?_eq_none (by exact q)]; simp
theorem kd_ring {j : Nat} (h : j < 20) : kd (23 + 3 * j) = 4 := by
  have q : ∀ j, j < 20 → kd (23 + 3 * j) = 4 := by decide +kernel
  exact q j h
section CROWS
variable {p : Program} {l : Launch} {e : Env} {R : Room} {s : State} {m : MethodId} {args : Array Value} {below : List Frame} {meth : Method} {c : Code} {H : Heap} {locs : List Loc} {cells slots : Nat} {Q : State → Prop}
variable {cc : ByteArray} {pc d nL idx : Nat} {own : String} {ls : Array Slot} {lv : List (Nat × Value)} {rest : List Value} {g : uG} {t : uN} {f : uF} {k : Nat}
theorem g_0_0 (X : uX p d R s m args c cc nL own) (Y : uY g 117 (cX g t f) s H locs) (hk : kd k = 0) (hl : Cond.fieldLink own idx RX0 "ship" "LBottomryLoans$She;" ∈ T0) (hdg : decode cc pc = .ok (.getfield idx, 3)) (kk : W p l e R s m args below meth c H locs cells slots Q (F0 m (pc + 3) ls (.ref (g.1 + (k+1)) :: rest))) : W p l e R s m args below meth c H locs cells slots Q (F0 m pc ls (.ref (g.1 + k) :: rest)) := u_get X Y (kd_lt hk (by decide)) (cX_0 hk) fw_X0 (T := TX0) rfl 0 (by decide) hl rfl rfl hdg kk
theorem g_0_1 (X : uX p d R s m args c cc nL own) (Y : uY g 117 (cX g t f) s H locs) (hk : kd k = 0) (hl : Cond.fieldLink own idx RX0 "seedThen" "I" ∈ T0) (hdg : decode cc pc = .ok (.getfield idx, 3)) (kk : W p l e R s m args below meth c H locs cells slots Q (F0 m (pc + 3) ls (.int (iV (t k 1)) :: rest))) : W p l e R s m args below meth c H locs cells slots Q (F0 m pc ls (.ref (g.1 + k) :: rest)) := u_get X Y (kd_lt hk (by decide)) (cX_0 hk) fw_X0 (T := TX0) rfl 1 (by decide) hl rfl rfl hdg kk
theorem p_0_1 (X : uX p d R s m args c cc nL own) (Y : uY g 117 (cX g t f) s H locs) (hk : kd k = 0) (hl : Cond.fieldLink own idx RX0 "seedThen" "I" ∈ T0) {z : Int} (hdg : decode cc pc = .ok (.putfield idx, 3)) (kk : ∀ (H1 : Heap) (locs1 : List Loc), uY g 117 (cX g (up2 t k 1 z) f) s H1 locs1 → W p l e R s m args below meth c H1 locs1 cells slots Q (F0 m (pc + 3) ls rest)) : W p l e R s m args below meth c H locs cells slots Q (F0 m pc ls (.int (iV z) :: .ref (g.1 + k) :: rest)) := u_put X Y (kd_lt hk (by decide)) (cX_0 hk) fw_X0 tyX0 tyX0_ok nmX0 (T := TX0) rfl 1 (by decide) hl rfl rfl rfl rfl (Nat.le_of_ble_eq_true rfl) hdg (fun H1 locs1 Y1 => kk H1 locs1 (by rw [cX_up (up2 t k 1 z) f (fun i hi => by funext q; simp [up2, hi]) (fun _ _ => rfl) (by rw [cX_0 hk]; simp [up2])] at Y1; exact Y1))
theorem g_0_2 (X : uX p d R s m args c cc nL own) (Y : uY g 117 (cX g t f) s H locs) (hk : kd k = 0) (hl : Cond.fieldLink own idx RX0 "kept" "Z" ∈ T0) (hdg : decode cc pc = .ok (.getfield idx, 3)) (kk : W p l e R s m args below meth c H locs cells slots Q (F0 m (pc + 3) ls (.int (iV (t k 2)) :: rest))) : W p l e R s m args below meth c H locs cells slots Q (F0 m pc ls (.ref (g.1 + k) :: rest)) := u_get X Y (kd_lt hk (by decide)) (cX_0 hk) fw_X0 (T := TX0) rfl 2 (by decide) hl rfl rfl hdg kk
theorem p_0_2 (X : uX p d R s m args c cc nL own) (Y : uY g 117 (cX g t f) s H locs) (hk : kd k = 0) (hl : Cond.fieldLink own idx RX0 "kept" "Z" ∈ T0) {z : Int} (hz : z = 0 ∨ z = 1) (hdg : decode cc pc = .ok (.putfield idx, 3)) (kk : ∀ (H1 : Heap) (locs1 : List Loc), uY g 117 (cX g (up2 t k 2 z) f) s H1 locs1 → W p l e R s m args below meth c H1 locs1 cells slots Q (F0 m (pc + 3) ls rest)) : W p l e R s m args below meth c H locs cells slots Q (F0 m pc ls (.int (iV z) :: .ref (g.1 + k) :: rest)) := u_put X Y (kd_lt hk (by decide)) (cX_0 hk) fw_X0 tyX0 tyX0_ok nmX0 (T := TX0) rfl 2 (by decide) hl rfl rfl (by rcases hz with rfl | rfl <;> rfl) (by rcases hz with rfl | rfl <;> rfl) (Nat.le_of_ble_eq_true rfl) hdg (fun H1 locs1 Y1 => kk H1 locs1 (by rw [cX_up (up2 t k 2 z) f (fun i hi => by funext q; simp [up2, hi]) (fun _ _ => rfl) (by rw [cX_0 hk]; simp [up2])] at Y1; exact Y1))
theorem rv_0 (Y : uY g 117 (cX g t f) s H locs) (hk : kd k = 0) : ∃ cell : Cell, H[g.1 + k]? = some cell ∧ cell.vm.isStatics = false ∧ s.vm.findClass RX0 = some cell.cls := u_recv Y (kd_lt hk (by decide)) (cX_0 hk) (T := TX0) rfl
theorem g_1_0 (X : uX p d R s m args c cc nL own) (Y : uY g 117 (cX g t f) s H locs) (hk : kd k = 1) (hl : Cond.fieldLink own idx RX1 "ring" "[LBottomryLoans$She;" ∈ T0) (hdg : decode cc pc = .ok (.getfield idx, 3)) (kk : W p l e R s m args below meth c H locs cells slots Q (F0 m (pc + 3) ls (.ref (g.1 + (k+1)) :: rest))) : W p l e R s m args below meth c H locs cells slots Q (F0 m pc ls (.ref (g.1 + k) :: rest)) := u_get X Y (kd_lt hk (by decide)) (cX_1 hk) fw_X1 (T := TX1) rfl 0 (by decide) hl rfl rfl hdg kk
theorem g_1_1 (X : uX p d R s m args c cc nL own) (Y : uY g 117 (cX g t f) s H locs) (hk : kd k = 1) (hl : Cond.fieldLink own idx RX1 "next" "I" ∈ T0) (hdg : decode cc pc = .ok (.getfield idx, 3)) (kk : W p l e R s m args below meth c H locs cells slots Q (F0 m (pc + 3) ls (.int (iV (t k 1)) :: rest))) : W p l e R s m args below meth c H locs cells slots Q (F0 m pc ls (.ref (g.1 + k) :: rest)) := u_get X Y (kd_lt hk (by decide)) (cX_1 hk) fw_X1 (T := TX1) rfl 1 (by decide) hl rfl rfl hdg kk
theorem p_1_1 (X : uX p d R s m args c cc nL own) (Y : uY g 117 (cX g t f) s H locs) (hk : kd k = 1) (hl : Cond.fieldLink own idx RX1 "next" "I" ∈ T0) {z : Int} (hdg : decode cc pc = .ok (.putfield idx, 3)) (kk : ∀ (H1 : Heap) (locs1 : List Loc), uY g 117 (cX g (up2 t k 1 z) f) s H1 locs1 → W p l e R s m args below meth c H1 locs1 cells slots Q (F0 m (pc + 3) ls rest)) : W p l e R s m args below meth c H locs cells slots Q (F0 m pc ls (.int (iV z) :: .ref (g.1 + k) :: rest)) := u_put X Y (kd_lt hk (by decide)) (cX_1 hk) fw_X1 tyX1 tyX1_ok nmX1 (T := TX1) rfl 1 (by decide) hl rfl rfl rfl rfl (Nat.le_of_ble_eq_true rfl) hdg (fun H1 locs1 Y1 => kk H1 locs1 (by rw [cX_up (up2 t k 1 z) f (fun i hi => by funext q; simp [up2, hi]) (fun _ _ => rfl) (by rw [cX_1 hk]; simp [up2])] at Y1; exact Y1))
theorem g_1_2 (X : uX p d R s m args c cc nL own) (Y : uY g 117 (cX g t f) s H locs) (hk : kd k = 1) (hl : Cond.fieldLink own idx RX1 "acts" "I" ∈ T0) (hdg : decode cc pc = .ok (.getfield idx, 3)) (kk : W p l e R s m args below meth c H locs cells slots Q (F0 m (pc + 3) ls (.int (iV (t k 2)) :: rest))) : W p l e R s m args below meth c H locs cells slots Q (F0 m pc ls (.ref (g.1 + k) :: rest)) := u_get X Y (kd_lt hk (by decide)) (cX_1 hk) fw_X1 (T := TX1) rfl 2 (by decide) hl rfl rfl hdg kk
theorem p_1_2 (X : uX p d R s m args c cc nL own) (Y : uY g 117 (cX g t f) s H locs) (hk : kd k = 1) (hl : Cond.fieldLink own idx RX1 "acts" "I" ∈ T0) {z : Int} (hdg : decode cc pc = .ok (.putfield idx, 3)) (kk : ∀ (H1 : Heap) (locs1 : List Loc), uY g 117 (cX g (up2 t k 2 z) f) s H1 locs1 → W p l e R s m args below meth c H1 locs1 cells slots Q (F0 m (pc + 3) ls rest)) : W p l e R s m args below meth c H locs cells slots Q (F0 m pc ls (.int (iV z) :: .ref (g.1 + k) :: rest)) := u_put X Y (kd_lt hk (by decide)) (cX_1 hk) fw_X1 tyX1 tyX1_ok nmX1 (T := TX1) rfl 2 (by decide) hl rfl rfl rfl rfl (Nat.le_of_ble_eq_true rfl) hdg (fun H1 locs1 Y1 => kk H1 locs1 (by rw [cX_up (up2 t k 2 z) f (fun i hi => by funext q; simp [up2, hi]) (fun _ _ => rfl) (by rw [cX_1 hk]; simp [up2])] at Y1; exact Y1))
theorem rv_1 (Y : uY g 117 (cX g t f) s H locs) (hk : kd k = 1) : ∃ cell : Cell, H[g.1 + k]? = some cell ∧ cell.vm.isStatics = false ∧ s.vm.findClass RX1 = some cell.cls := u_recv Y (kd_lt hk (by decide)) (cX_1 hk) (T := TX1) rfl
theorem g_2_0 (X : uX p d R s m args c cc nL own) (Y : uY g 117 (cX g t f) s H locs) (hk : kd k = 2) (hl : Cond.fieldLink own idx RX2 "voyage" "LBottomryLoans$Voyage;" ∈ T0) (hdg : decode cc pc = .ok (.getfield idx, 3)) (kk : W p l e R s m args below meth c H locs cells slots Q (F0 m (pc + 3) ls (.ref (g.1 + 11) :: rest))) : W p l e R s m args below meth c H locs cells slots Q (F0 m pc ls (.ref (g.1 + k) :: rest)) := u_get X Y (kd_lt hk (by decide)) (cX_2 hk) fw_X2 (T := TX2) rfl 0 (by decide) hl rfl rfl hdg kk
theorem g_2_1 (X : uX p d R s m args c cc nL own) (Y : uY g 117 (cX g t f) s H locs) (hk : kd k = 2) (hl : Cond.fieldLink own idx RX2 "tried" "LBottomryLoans$Table;" ∈ T0) (hdg : decode cc pc = .ok (.getfield idx, 3)) (kk : W p l e R s m args below meth c H locs cells slots Q (F0 m (pc + 3) ls (.ref (g.1 + (k+1)) :: rest))) : W p l e R s m args below meth c H locs cells slots Q (F0 m pc ls (.ref (g.1 + k) :: rest)) := u_get X Y (kd_lt hk (by decide)) (cX_2 hk) fw_X2 (T := TX2) rfl 1 (by decide) hl rfl rfl hdg kk
theorem g_2_2 (X : uX p d R s m args c cc nL own) (Y : uY g 117 (cX g t f) s H locs) (hk : kd k = 2) (hl : Cond.fieldLink own idx RX2 "best" "LBottomryLoans$Table;" ∈ T0) (hdg : decode cc pc = .ok (.getfield idx, 3)) (kk : W p l e R s m args below meth c H locs cells slots Q (F0 m (pc + 3) ls (.ref (g.1 + (k+3)) :: rest))) : W p l e R s m args below meth c H locs cells slots Q (F0 m pc ls (.ref (g.1 + k) :: rest)) := u_get X Y (kd_lt hk (by decide)) (cX_2 hk) fw_X2 (T := TX2) rfl 2 (by decide) hl rfl rfl hdg kk
theorem g_2_3 (X : uX p d R s m args c cc nL own) (Y : uY g 117 (cX g t f) s H locs) (hk : kd k = 2) (hl : Cond.fieldLink own idx RX2 "firstLeg" "I" ∈ T0) (hdg : decode cc pc = .ok (.getfield idx, 3)) (kk : W p l e R s m args below meth c H locs cells slots Q (F0 m (pc + 3) ls (.int (iV (t k 3)) :: rest))) : W p l e R s m args below meth c H locs cells slots Q (F0 m pc ls (.ref (g.1 + k) :: rest)) := u_get X Y (kd_lt hk (by decide)) (cX_2 hk) fw_X2 (T := TX2) rfl 3 (by decide) hl rfl rfl hdg kk
theorem p_2_3 (X : uX p d R s m args c cc nL own) (Y : uY g 117 (cX g t f) s H locs) (hk : kd k = 2) (hl : Cond.fieldLink own idx RX2 "firstLeg" "I" ∈ T0) {z : Int} (hdg : decode cc pc = .ok (.putfield idx, 3)) (kk : ∀ (H1 : Heap) (locs1 : List Loc), uY g 117 (cX g (up2 t k 3 z) f) s H1 locs1 → W p l e R s m args below meth c H1 locs1 cells slots Q (F0 m (pc + 3) ls rest)) : W p l e R s m args below meth c H locs cells slots Q (F0 m pc ls (.int (iV z) :: .ref (g.1 + k) :: rest)) := u_put X Y (kd_lt hk (by decide)) (cX_2 hk) fw_X2 tyX2 tyX2_ok nmX2 (T := TX2) rfl 3 (by decide) hl rfl rfl rfl rfl (Nat.le_of_ble_eq_true rfl) hdg (fun H1 locs1 Y1 => kk H1 locs1 (by rw [cX_up (up2 t k 3 z) f (fun i hi => by funext q; simp [up2, hi]) (fun _ _ => rfl) (by rw [cX_2 hk]; simp [up2])] at Y1; exact Y1))
theorem g_2_4 (X : uX p d R s m args c cc nL own) (Y : uY g 117 (cX g t f) s H locs) (hk : kd k = 2) (hl : Cond.fieldLink own idx RX2 "leftBesidesPurse" "I" ∈ T0) (hdg : decode cc pc = .ok (.getfield idx, 3)) (kk : W p l e R s m args below meth c H locs cells slots Q (F0 m (pc + 3) ls (.int (iV (t k 4)) :: rest))) : W p l e R s m args below meth c H locs cells slots Q (F0 m pc ls (.ref (g.1 + k) :: rest)) := u_get X Y (kd_lt hk (by decide)) (cX_2 hk) fw_X2 (T := TX2) rfl 4 (by decide) hl rfl rfl hdg kk
theorem p_2_4 (X : uX p d R s m args c cc nL own) (Y : uY g 117 (cX g t f) s H locs) (hk : kd k = 2) (hl : Cond.fieldLink own idx RX2 "leftBesidesPurse" "I" ∈ T0) {z : Int} (hdg : decode cc pc = .ok (.putfield idx, 3)) (kk : ∀ (H1 : Heap) (locs1 : List Loc), uY g 117 (cX g (up2 t k 4 z) f) s H1 locs1 → W p l e R s m args below meth c H1 locs1 cells slots Q (F0 m (pc + 3) ls rest)) : W p l e R s m args below meth c H locs cells slots Q (F0 m pc ls (.int (iV z) :: .ref (g.1 + k) :: rest)) := u_put X Y (kd_lt hk (by decide)) (cX_2 hk) fw_X2 tyX2 tyX2_ok nmX2 (T := TX2) rfl 4 (by decide) hl rfl rfl rfl rfl (Nat.le_of_ble_eq_true rfl) hdg (fun H1 locs1 Y1 => kk H1 locs1 (by rw [cX_up (up2 t k 4 z) f (fun i hi => by funext q; simp [up2, hi]) (fun _ _ => rfl) (by rw [cX_2 hk]; simp [up2])] at Y1; exact Y1))
theorem g_2_5 (X : uX p d R s m args c cc nL own) (Y : uY g 117 (cX g t f) s H locs) (hk : kd k = 2) (hl : Cond.fieldLink own idx RX2 "most" "J" ∈ T0) (hdg : decode cc pc = .ok (.getfield idx, 3)) (kk : W p l e R s m args below meth c H locs cells slots Q (F0 m (pc + 3) ls (.long (lV (t k 5)) :: rest))) : W p l e R s m args below meth c H locs cells slots Q (F0 m pc ls (.ref (g.1 + k) :: rest)) := u_get X Y (kd_lt hk (by decide)) (cX_2 hk) fw_X2 (T := TX2) rfl 5 (by decide) hl rfl rfl hdg kk
theorem p_2_5 (X : uX p d R s m args c cc nL own) (Y : uY g 117 (cX g t f) s H locs) (hk : kd k = 2) (hl : Cond.fieldLink own idx RX2 "most" "J" ∈ T0) {z : Int} (hdg : decode cc pc = .ok (.putfield idx, 3)) (kk : ∀ (H1 : Heap) (locs1 : List Loc), uY g 117 (cX g (up2 t k 5 z) f) s H1 locs1 → W p l e R s m args below meth c H1 locs1 cells slots Q (F0 m (pc + 3) ls rest)) : W p l e R s m args below meth c H locs cells slots Q (F0 m pc ls (.long (lV z) :: .ref (g.1 + k) :: rest)) := u_put X Y (kd_lt hk (by decide)) (cX_2 hk) fw_X2 tyX2 tyX2_ok nmX2 (T := TX2) rfl 5 (by decide) hl rfl rfl rfl rfl (Nat.le_of_ble_eq_true rfl) hdg (fun H1 locs1 Y1 => kk H1 locs1 (by rw [cX_up (up2 t k 5 z) f (fun i hi => by funext q; simp [up2, hi]) (fun _ _ => rfl) (by rw [cX_2 hk]; simp [up2])] at Y1; exact Y1))
theorem g_2_6 (X : uX p d R s m args c cc nL own) (Y : uY g 117 (cX g t f) s H locs) (hk : kd k = 2) (hl : Cond.fieldLink own idx RX2 "done" "Z" ∈ T0) (hdg : decode cc pc = .ok (.getfield idx, 3)) (kk : W p l e R s m args below meth c H locs cells slots Q (F0 m (pc + 3) ls (.int (iV (t k 6)) :: rest))) : W p l e R s m args below meth c H locs cells slots Q (F0 m pc ls (.ref (g.1 + k) :: rest)) := u_get X Y (kd_lt hk (by decide)) (cX_2 hk) fw_X2 (T := TX2) rfl 6 (by decide) hl rfl rfl hdg kk
theorem p_2_6 (X : uX p d R s m args c cc nL own) (Y : uY g 117 (cX g t f) s H locs) (hk : kd k = 2) (hl : Cond.fieldLink own idx RX2 "done" "Z" ∈ T0) {z : Int} (hz : z = 0 ∨ z = 1) (hdg : decode cc pc = .ok (.putfield idx, 3)) (kk : ∀ (H1 : Heap) (locs1 : List Loc), uY g 117 (cX g (up2 t k 6 z) f) s H1 locs1 → W p l e R s m args below meth c H1 locs1 cells slots Q (F0 m (pc + 3) ls rest)) : W p l e R s m args below meth c H locs cells slots Q (F0 m pc ls (.int (iV z) :: .ref (g.1 + k) :: rest)) := u_put X Y (kd_lt hk (by decide)) (cX_2 hk) fw_X2 tyX2 tyX2_ok nmX2 (T := TX2) rfl 6 (by decide) hl rfl rfl (by rcases hz with rfl | rfl <;> rfl) (by rcases hz with rfl | rfl <;> rfl) (Nat.le_of_ble_eq_true rfl) hdg (fun H1 locs1 Y1 => kk H1 locs1 (by rw [cX_up (up2 t k 6 z) f (fun i hi => by funext q; simp [up2, hi]) (fun _ _ => rfl) (by rw [cX_2 hk]; simp [up2])] at Y1; exact Y1))
theorem rv_2 (Y : uY g 117 (cX g t f) s H locs) (hk : kd k = 2) : ∃ cell : Cell, H[g.1 + k]? = some cell ∧ cell.vm.isStatics = false ∧ s.vm.findClass RX2 = some cell.cls := u_recv Y (kd_lt hk (by decide)) (cX_2 hk) (T := TX2) rfl
theorem g_3_0 (X : uX p d R s m args c cc nL own) (Y : uY g 117 (cX g t f) s H locs) (hk : kd k = 3) (hl : Cond.fieldLink own idx RX3 "text" "LBottomryLoans$Table;" ∈ T0) (hdg : decode cc pc = .ok (.getfield idx, 3)) (kk : W p l e R s m args below meth c H locs cells slots Q (F0 m (pc + 3) ls (.ref (g.1 + 1) :: rest))) : W p l e R s m args below meth c H locs cells slots Q (F0 m pc ls (.ref (g.1 + k) :: rest)) := u_get X Y (kd_lt hk (by decide)) (cX_3 hk) fw_X3 (T := TX3) rfl 0 (by decide) hl rfl rfl hdg kk
theorem g_3_1 (X : uX p d R s m args c cc nL own) (Y : uY g 117 (cX g t f) s H locs) (hk : kd k = 3) (hl : Cond.fieldLink own idx RX3 "draft" "LBottomryLoans$Voyage;" ∈ T0) (hdg : decode cc pc = .ok (.getfield idx, 3)) (kk : W p l e R s m args below meth c H locs cells slots Q (F0 m (pc + 3) ls (.ref (g.1 + (k+1)) :: rest))) : W p l e R s m args below meth c H locs cells slots Q (F0 m pc ls (.ref (g.1 + k) :: rest)) := u_get X Y (kd_lt hk (by decide)) (cX_3 hk) fw_X3 (T := TX3) rfl 1 (by decide) hl rfl rfl hdg kk
theorem g_3_2 (X : uX p d R s m args c cc nL own) (Y : uY g 117 (cX g t f) s H locs) (hk : kd k = 3) (hl : Cond.fieldLink own idx RX3 "at" "I" ∈ T0) (hdg : decode cc pc = .ok (.getfield idx, 3)) (kk : W p l e R s m args below meth c H locs cells slots Q (F0 m (pc + 3) ls (.int (iV (t k 2)) :: rest))) : W p l e R s m args below meth c H locs cells slots Q (F0 m pc ls (.ref (g.1 + k) :: rest)) := u_get X Y (kd_lt hk (by decide)) (cX_3 hk) fw_X3 (T := TX3) rfl 2 (by decide) hl rfl rfl hdg kk
theorem p_3_2 (X : uX p d R s m args c cc nL own) (Y : uY g 117 (cX g t f) s H locs) (hk : kd k = 3) (hl : Cond.fieldLink own idx RX3 "at" "I" ∈ T0) {z : Int} (hdg : decode cc pc = .ok (.putfield idx, 3)) (kk : ∀ (H1 : Heap) (locs1 : List Loc), uY g 117 (cX g (up2 t k 2 z) f) s H1 locs1 → W p l e R s m args below meth c H1 locs1 cells slots Q (F0 m (pc + 3) ls rest)) : W p l e R s m args below meth c H locs cells slots Q (F0 m pc ls (.int (iV z) :: .ref (g.1 + k) :: rest)) := u_put X Y (kd_lt hk (by decide)) (cX_3 hk) fw_X3 tyX3 tyX3_ok nmX3 (T := TX3) rfl 2 (by decide) hl rfl rfl rfl rfl (Nat.le_of_ble_eq_true rfl) hdg (fun H1 locs1 Y1 => kk H1 locs1 (by rw [cX_up (up2 t k 2 z) f (fun i hi => by funext q; simp [up2, hi]) (fun _ _ => rfl) (by rw [cX_3 hk]; simp [up2])] at Y1; exact Y1))
theorem g_3_3 (X : uX p d R s m args c cc nL own) (Y : uY g 117 (cX g t f) s H locs) (hk : kd k = 3) (hl : Cond.fieldLink own idx RX3 "faultKind" "I" ∈ T0) (hdg : decode cc pc = .ok (.getfield idx, 3)) (kk : W p l e R s m args below meth c H locs cells slots Q (F0 m (pc + 3) ls (.int (iV (t k 3)) :: rest))) : W p l e R s m args below meth c H locs cells slots Q (F0 m pc ls (.ref (g.1 + k) :: rest)) := u_get X Y (kd_lt hk (by decide)) (cX_3 hk) fw_X3 (T := TX3) rfl 3 (by decide) hl rfl rfl hdg kk
theorem p_3_3 (X : uX p d R s m args c cc nL own) (Y : uY g 117 (cX g t f) s H locs) (hk : kd k = 3) (hl : Cond.fieldLink own idx RX3 "faultKind" "I" ∈ T0) {z : Int} (hdg : decode cc pc = .ok (.putfield idx, 3)) (kk : ∀ (H1 : Heap) (locs1 : List Loc), uY g 117 (cX g (up2 t k 3 z) f) s H1 locs1 → W p l e R s m args below meth c H1 locs1 cells slots Q (F0 m (pc + 3) ls rest)) : W p l e R s m args below meth c H locs cells slots Q (F0 m pc ls (.int (iV z) :: .ref (g.1 + k) :: rest)) := u_put X Y (kd_lt hk (by decide)) (cX_3 hk) fw_X3 tyX3 tyX3_ok nmX3 (T := TX3) rfl 3 (by decide) hl rfl rfl rfl rfl (Nat.le_of_ble_eq_true rfl) hdg (fun H1 locs1 Y1 => kk H1 locs1 (by rw [cX_up (up2 t k 3 z) f (fun i hi => by funext q; simp [up2, hi]) (fun _ _ => rfl) (by rw [cX_3 hk]; simp [up2])] at Y1; exact Y1))
theorem g_3_4 (X : uX p d R s m args c cc nL own) (Y : uY g 117 (cX g t f) s H locs) (hk : kd k = 3) (hl : Cond.fieldLink own idx RX3 "faultAt" "I" ∈ T0) (hdg : decode cc pc = .ok (.getfield idx, 3)) (kk : W p l e R s m args below meth c H locs cells slots Q (F0 m (pc + 3) ls (.int (iV (t k 4)) :: rest))) : W p l e R s m args below meth c H locs cells slots Q (F0 m pc ls (.ref (g.1 + k) :: rest)) := u_get X Y (kd_lt hk (by decide)) (cX_3 hk) fw_X3 (T := TX3) rfl 4 (by decide) hl rfl rfl hdg kk
theorem p_3_4 (X : uX p d R s m args c cc nL own) (Y : uY g 117 (cX g t f) s H locs) (hk : kd k = 3) (hl : Cond.fieldLink own idx RX3 "faultAt" "I" ∈ T0) {z : Int} (hdg : decode cc pc = .ok (.putfield idx, 3)) (kk : ∀ (H1 : Heap) (locs1 : List Loc), uY g 117 (cX g (up2 t k 4 z) f) s H1 locs1 → W p l e R s m args below meth c H1 locs1 cells slots Q (F0 m (pc + 3) ls rest)) : W p l e R s m args below meth c H locs cells slots Q (F0 m pc ls (.int (iV z) :: .ref (g.1 + k) :: rest)) := u_put X Y (kd_lt hk (by decide)) (cX_3 hk) fw_X3 tyX3 tyX3_ok nmX3 (T := TX3) rfl 4 (by decide) hl rfl rfl rfl rfl (Nat.le_of_ble_eq_true rfl) hdg (fun H1 locs1 Y1 => kk H1 locs1 (by rw [cX_up (up2 t k 4 z) f (fun i hi => by funext q; simp [up2, hi]) (fun _ _ => rfl) (by rw [cX_3 hk]; simp [up2])] at Y1; exact Y1))
theorem rv_3 (Y : uY g 117 (cX g t f) s H locs) (hk : kd k = 3) : ∃ cell : Cell, H[g.1 + k]? = some cell ∧ cell.vm.isStatics = false ∧ s.vm.findClass RX3 = some cell.cls := u_recv Y (kd_lt hk (by decide)) (cX_3 hk) (T := TX3) rfl
theorem g_4_0 (X : uX p d R s m args c cc nL own) (Y : uY g 117 (cX g t f) s H locs) (hk : kd k = 4) (hl : Cond.fieldLink own idx RX4 "loans" "LBottomryLoans$Table;" ∈ T0) (hdg : decode cc pc = .ok (.getfield idx, 3)) (kk : W p l e R s m args below meth c H locs cells slots Q (F0 m (pc + 3) ls (.ref (g.1 + (k+1)) :: rest))) : W p l e R s m args below meth c H locs cells slots Q (F0 m pc ls (.ref (g.1 + k) :: rest)) := u_get X Y (kd_lt hk (by decide)) (cX_4 hk) fw_X4 (T := TX4) rfl 0 (by decide) hl rfl rfl hdg kk
theorem g_4_1 (X : uX p d R s m args c cc nL own) (Y : uY g 117 (cX g t f) s H locs) (hk : kd k = 4) (hl : Cond.fieldLink own idx RX4 "state" "I" ∈ T0) (hdg : decode cc pc = .ok (.getfield idx, 3)) (kk : W p l e R s m args below meth c H locs cells slots Q (F0 m (pc + 3) ls (.int (iV (t k 1)) :: rest))) : W p l e R s m args below meth c H locs cells slots Q (F0 m pc ls (.ref (g.1 + k) :: rest)) := u_get X Y (kd_lt hk (by decide)) (cX_4 hk) fw_X4 (T := TX4) rfl 1 (by decide) hl rfl rfl hdg kk
theorem p_4_1 (X : uX p d R s m args c cc nL own) (Y : uY g 117 (cX g t f) s H locs) (hk : kd k = 4) (hl : Cond.fieldLink own idx RX4 "state" "I" ∈ T0) {z : Int} (hdg : decode cc pc = .ok (.putfield idx, 3)) (kk : ∀ (H1 : Heap) (locs1 : List Loc), uY g 117 (cX g (up2 t k 1 z) f) s H1 locs1 → W p l e R s m args below meth c H1 locs1 cells slots Q (F0 m (pc + 3) ls rest)) : W p l e R s m args below meth c H locs cells slots Q (F0 m pc ls (.int (iV z) :: .ref (g.1 + k) :: rest)) := u_put X Y (kd_lt hk (by decide)) (cX_4 hk) fw_X4 tyX4 tyX4_ok nmX4 (T := TX4) rfl 1 (by decide) hl rfl rfl rfl rfl (Nat.le_of_ble_eq_true rfl) hdg (fun H1 locs1 Y1 => kk H1 locs1 (by rw [cX_up (up2 t k 1 z) f (fun i hi => by funext q; simp [up2, hi]) (fun _ _ => rfl) (by rw [cX_4 hk]; simp [up2])] at Y1; exact Y1))
theorem g_4_2 (X : uX p d R s m args c cc nL own) (Y : uY g 117 (cX g t f) s H locs) (hk : kd k = 4) (hl : Cond.fieldLink own idx RX4 "purse" "I" ∈ T0) (hdg : decode cc pc = .ok (.getfield idx, 3)) (kk : W p l e R s m args below meth c H locs cells slots Q (F0 m (pc + 3) ls (.int (iV (t k 2)) :: rest))) : W p l e R s m args below meth c H locs cells slots Q (F0 m pc ls (.ref (g.1 + k) :: rest)) := u_get X Y (kd_lt hk (by decide)) (cX_4 hk) fw_X4 (T := TX4) rfl 2 (by decide) hl rfl rfl hdg kk
theorem p_4_2 (X : uX p d R s m args c cc nL own) (Y : uY g 117 (cX g t f) s H locs) (hk : kd k = 4) (hl : Cond.fieldLink own idx RX4 "purse" "I" ∈ T0) {z : Int} (hdg : decode cc pc = .ok (.putfield idx, 3)) (kk : ∀ (H1 : Heap) (locs1 : List Loc), uY g 117 (cX g (up2 t k 2 z) f) s H1 locs1 → W p l e R s m args below meth c H1 locs1 cells slots Q (F0 m (pc + 3) ls rest)) : W p l e R s m args below meth c H locs cells slots Q (F0 m pc ls (.int (iV z) :: .ref (g.1 + k) :: rest)) := u_put X Y (kd_lt hk (by decide)) (cX_4 hk) fw_X4 tyX4 tyX4_ok nmX4 (T := TX4) rfl 2 (by decide) hl rfl rfl rfl rfl (Nat.le_of_ble_eq_true rfl) hdg (fun H1 locs1 Y1 => kk H1 locs1 (by rw [cX_up (up2 t k 2 z) f (fun i hi => by funext q; simp [up2, hi]) (fun _ _ => rfl) (by rw [cX_4 hk]; simp [up2])] at Y1; exact Y1))
theorem g_4_3 (X : uX p d R s m args c cc nL own) (Y : uY g 117 (cX g t f) s H locs) (hk : kd k = 4) (hl : Cond.fieldLink own idx RX4 "sailed" "I" ∈ T0) (hdg : decode cc pc = .ok (.getfield idx, 3)) (kk : W p l e R s m args below meth c H locs cells slots Q (F0 m (pc + 3) ls (.int (iV (t k 3)) :: rest))) : W p l e R s m args below meth c H locs cells slots Q (F0 m pc ls (.ref (g.1 + k) :: rest)) := u_get X Y (kd_lt hk (by decide)) (cX_4 hk) fw_X4 (T := TX4) rfl 3 (by decide) hl rfl rfl hdg kk
theorem p_4_3 (X : uX p d R s m args c cc nL own) (Y : uY g 117 (cX g t f) s H locs) (hk : kd k = 4) (hl : Cond.fieldLink own idx RX4 "sailed" "I" ∈ T0) {z : Int} (hdg : decode cc pc = .ok (.putfield idx, 3)) (kk : ∀ (H1 : Heap) (locs1 : List Loc), uY g 117 (cX g (up2 t k 3 z) f) s H1 locs1 → W p l e R s m args below meth c H1 locs1 cells slots Q (F0 m (pc + 3) ls rest)) : W p l e R s m args below meth c H locs cells slots Q (F0 m pc ls (.int (iV z) :: .ref (g.1 + k) :: rest)) := u_put X Y (kd_lt hk (by decide)) (cX_4 hk) fw_X4 tyX4 tyX4_ok nmX4 (T := TX4) rfl 3 (by decide) hl rfl rfl rfl rfl (Nat.le_of_ble_eq_true rfl) hdg (fun H1 locs1 Y1 => kk H1 locs1 (by rw [cX_up (up2 t k 3 z) f (fun i hi => by funext q; simp [up2, hi]) (fun _ _ => rfl) (by rw [cX_4 hk]; simp [up2])] at Y1; exact Y1))
theorem g_4_4 (X : uX p d R s m args c cc nL own) (Y : uY g 117 (cX g t f) s H locs) (hk : kd k = 4) (hl : Cond.fieldLink own idx RX4 "lost" "Z" ∈ T0) (hdg : decode cc pc = .ok (.getfield idx, 3)) (kk : W p l e R s m args below meth c H locs cells slots Q (F0 m (pc + 3) ls (.int (iV (t k 4)) :: rest))) : W p l e R s m args below meth c H locs cells slots Q (F0 m pc ls (.ref (g.1 + k) :: rest)) := u_get X Y (kd_lt hk (by decide)) (cX_4 hk) fw_X4 (T := TX4) rfl 4 (by decide) hl rfl rfl hdg kk
theorem p_4_4 (X : uX p d R s m args c cc nL own) (Y : uY g 117 (cX g t f) s H locs) (hk : kd k = 4) (hl : Cond.fieldLink own idx RX4 "lost" "Z" ∈ T0) {z : Int} (hz : z = 0 ∨ z = 1) (hdg : decode cc pc = .ok (.putfield idx, 3)) (kk : ∀ (H1 : Heap) (locs1 : List Loc), uY g 117 (cX g (up2 t k 4 z) f) s H1 locs1 → W p l e R s m args below meth c H1 locs1 cells slots Q (F0 m (pc + 3) ls rest)) : W p l e R s m args below meth c H locs cells slots Q (F0 m pc ls (.int (iV z) :: .ref (g.1 + k) :: rest)) := u_put X Y (kd_lt hk (by decide)) (cX_4 hk) fw_X4 tyX4 tyX4_ok nmX4 (T := TX4) rfl 4 (by decide) hl rfl rfl (by rcases hz with rfl | rfl <;> rfl) (by rcases hz with rfl | rfl <;> rfl) (Nat.le_of_ble_eq_true rfl) hdg (fun H1 locs1 Y1 => kk H1 locs1 (by rw [cX_up (up2 t k 4 z) f (fun i hi => by funext q; simp [up2, hi]) (fun _ _ => rfl) (by rw [cX_4 hk]; simp [up2])] at Y1; exact Y1))
theorem rv_4 (Y : uY g 117 (cX g t f) s H locs) (hk : kd k = 4) : ∃ cell : Cell, H[g.1 + k]? = some cell ∧ cell.vm.isStatics = false ∧ s.vm.findClass RX4 = some cell.cls := u_recv Y (kd_lt hk (by decide)) (cX_4 hk) (T := TX4) rfl
theorem g_5_0 (X : uX p d R s m args c cc nL own) (Y : uY g 117 (cX g t f) s H locs) (hk : kd k = 5) (hl : Cond.fieldLink own idx RX5 "width" "I" ∈ T0) (hdg : decode cc pc = .ok (.getfield idx, 3)) (kk : W p l e R s m args below meth c H locs cells slots Q (F0 m (pc + 3) ls (.int (iV (tw k)) :: rest))) : W p l e R s m args below meth c H locs cells slots Q (F0 m pc ls (.ref (g.1 + k) :: rest)) := u_get X Y (kd_lt hk (by decide)) (cX_5 hk) fw_X5 (T := TX5) rfl 0 (by decide) hl rfl rfl hdg kk
theorem g_5_1 (X : uX p d R s m args c cc nL own) (Y : uY g 117 (cX g t f) s H locs) (hk : kd k = 5) (hl : Cond.fieldLink own idx RX5 "most" "I" ∈ T0) (hdg : decode cc pc = .ok (.getfield idx, 3)) (kk : W p l e R s m args below meth c H locs cells slots Q (F0 m (pc + 3) ls (.int (iV (tm k)) :: rest))) : W p l e R s m args below meth c H locs cells slots Q (F0 m pc ls (.ref (g.1 + k) :: rest)) := u_get X Y (kd_lt hk (by decide)) (cX_5 hk) fw_X5 (T := TX5) rfl 1 (by decide) hl rfl rfl hdg kk
theorem g_5_2 (X : uX p d R s m args c cc nL own) (Y : uY g 117 (cX g t f) s H locs) (hk : kd k = 5) (hl : Cond.fieldLink own idx RX5 "cells" "[I" ∈ T0) (hdg : decode cc pc = .ok (.getfield idx, 3)) (kk : W p l e R s m args below meth c H locs cells slots Q (F0 m (pc + 3) ls (.ref (g.1 + (k+1)) :: rest))) : W p l e R s m args below meth c H locs cells slots Q (F0 m pc ls (.ref (g.1 + k) :: rest)) := u_get X Y (kd_lt hk (by decide)) (cX_5 hk) fw_X5 (T := TX5) rfl 2 (by decide) hl rfl rfl hdg kk
theorem g_5_3 (X : uX p d R s m args c cc nL own) (Y : uY g 117 (cX g t f) s H locs) (hk : kd k = 5) (hl : Cond.fieldLink own idx RX5 "rows" "I" ∈ T0) (hdg : decode cc pc = .ok (.getfield idx, 3)) (kk : W p l e R s m args below meth c H locs cells slots Q (F0 m (pc + 3) ls (.int (iV (t k 3)) :: rest))) : W p l e R s m args below meth c H locs cells slots Q (F0 m pc ls (.ref (g.1 + k) :: rest)) := u_get X Y (kd_lt hk (by decide)) (cX_5 hk) fw_X5 (T := TX5) rfl 3 (by decide) hl rfl rfl hdg kk
theorem p_5_3 (X : uX p d R s m args c cc nL own) (Y : uY g 117 (cX g t f) s H locs) (hk : kd k = 5) (hl : Cond.fieldLink own idx RX5 "rows" "I" ∈ T0) {z : Int} (hdg : decode cc pc = .ok (.putfield idx, 3)) (kk : ∀ (H1 : Heap) (locs1 : List Loc), uY g 117 (cX g (up2 t k 3 z) f) s H1 locs1 → W p l e R s m args below meth c H1 locs1 cells slots Q (F0 m (pc + 3) ls rest)) : W p l e R s m args below meth c H locs cells slots Q (F0 m pc ls (.int (iV z) :: .ref (g.1 + k) :: rest)) := u_put X Y (kd_lt hk (by decide)) (cX_5 hk) fw_X5 tyX5 tyX5_ok nmX5 (T := TX5) rfl 3 (by decide) hl rfl rfl rfl rfl (Nat.le_of_ble_eq_true rfl) hdg (fun H1 locs1 Y1 => kk H1 locs1 (by rw [cX_up (up2 t k 3 z) f (fun i hi => by funext q; simp [up2, hi]) (fun _ _ => rfl) (by rw [cX_5 hk]; simp [up2])] at Y1; exact Y1))
theorem rv_5 (Y : uY g 117 (cX g t f) s H locs) (hk : kd k = 5) : ∃ cell : Cell, H[g.1 + k]? = some cell ∧ cell.vm.isStatics = false ∧ s.vm.findClass RX5 = some cell.cls := u_recv Y (kd_lt hk (by decide)) (cX_5 hk) (T := TX5) rfl
theorem g_6_0 (X : uX p d R s m args c cc nL own) (Y : uY g 117 (cX g t f) s H locs) (hk : kd k = 6) (hl : Cond.fieldLink own idx RX6 "ship" "LBottomryLoans$Table;" ∈ T0) (hdg : decode cc pc = .ok (.getfield idx, 3)) (kk : W p l e R s m args below meth c H locs cells slots Q (F0 m (pc + 3) ls (.ref (g.1 + (k+1)) :: rest))) : W p l e R s m args below meth c H locs cells slots Q (F0 m pc ls (.ref (g.1 + k) :: rest)) := u_get X Y (kd_lt hk (by decide)) (cX_6 hk) fw_X6 (T := TX6) rfl 0 (by decide) hl rfl rfl hdg kk
theorem g_6_1 (X : uX p d R s m args c cc nL own) (Y : uY g 117 (cX g t f) s H locs) (hk : kd k = 6) (hl : Cond.fieldLink own idx RX6 "legs" "LBottomryLoans$Table;" ∈ T0) (hdg : decode cc pc = .ok (.getfield idx, 3)) (kk : W p l e R s m args below meth c H locs cells slots Q (F0 m (pc + 3) ls (.ref (g.1 + (k+3)) :: rest))) : W p l e R s m args below meth c H locs cells slots Q (F0 m pc ls (.ref (g.1 + k) :: rest)) := u_get X Y (kd_lt hk (by decide)) (cX_6 hk) fw_X6 (T := TX6) rfl 1 (by decide) hl rfl rfl hdg kk
theorem g_6_2 (X : uX p d R s m args c cc nL own) (Y : uY g 117 (cX g t f) s H locs) (hk : kd k = 6) (hl : Cond.fieldLink own idx RX6 "lenders" "LBottomryLoans$Table;" ∈ T0) (hdg : decode cc pc = .ok (.getfield idx, 3)) (kk : W p l e R s m args below meth c H locs cells slots Q (F0 m (pc + 3) ls (.ref (g.1 + (k+5)) :: rest))) : W p l e R s m args below meth c H locs cells slots Q (F0 m pc ls (.ref (g.1 + k) :: rest)) := u_get X Y (kd_lt hk (by decide)) (cX_6 hk) fw_X6 (T := TX6) rfl 2 (by decide) hl rfl rfl hdg kk
theorem rv_6 (Y : uY g 117 (cX g t f) s H locs) (hk : kd k = 6) : ∃ cell : Cell, H[g.1 + k]? = some cell ∧ cell.vm.isStatics = false ∧ s.vm.findClass RX6 = some cell.cls := u_recv Y (kd_lt hk (by decide)) (cX_6 hk) (T := TX6) rfl
theorem g_7_0 (X : uX p d R s m args c cc nL own) (Y : uY g 117 (cX g t f) s H locs) (hk : kd k = 7) (hl : Cond.fieldLink own idx RX7 "text" "LBottomryLoans$Table;" ∈ T0) (hdg : decode cc pc = .ok (.getfield idx, 3)) (kk : W p l e R s m args below meth c H locs cells slots Q (F0 m (pc + 3) ls (.ref (g.1 + 1) :: rest))) : W p l e R s m args below meth c H locs cells slots Q (F0 m pc ls (.ref (g.1 + k) :: rest)) := u_get X Y (kd_lt hk (by decide)) (cX_7 hk) fw_X7 (T := TX7) rfl 0 (by decide) hl rfl rfl hdg kk
theorem g_7_1 (X : uX p d R s m args c cc nL own) (Y : uY g 117 (cX g t f) s H locs) (hk : kd k = 7) (hl : Cond.fieldLink own idx RX7 "reader" "LBottomryLoans$Reader;" ∈ T0) (hdg : decode cc pc = .ok (.getfield idx, 3)) (kk : W p l e R s m args below meth c H locs cells slots Q (F0 m (pc + 3) ls (.ref (g.1 + 3) :: rest))) : W p l e R s m args below meth c H locs cells slots Q (F0 m pc ls (.ref (g.1 + k) :: rest)) := u_get X Y (kd_lt hk (by decide)) (cX_7 hk) fw_X7 (T := TX7) rfl 1 (by decide) hl rfl rfl hdg kk
theorem g_7_2 (X : uX p d R s m args c cc nL own) (Y : uY g 117 (cX g t f) s H locs) (hk : kd k = 7) (hl : Cond.fieldLink own idx RX7 "voyage" "LBottomryLoans$Voyage;" ∈ T0) (hdg : decode cc pc = .ok (.getfield idx, 3)) (kk : W p l e R s m args below meth c H locs cells slots Q (F0 m (pc + 3) ls (.ref (g.1 + 11) :: rest))) : W p l e R s m args below meth c H locs cells slots Q (F0 m pc ls (.ref (g.1 + k) :: rest)) := u_get X Y (kd_lt hk (by decide)) (cX_7 hk) fw_X7 (T := TX7) rfl 2 (by decide) hl rfl rfl hdg kk
theorem g_7_3 (X : uX p d R s m args c cc nL own) (Y : uY g 117 (cX g t f) s H locs) (hk : kd k = 7) (hl : Cond.fieldLink own idx RX7 "she" "LBottomryLoans$She;" ∈ T0) (hdg : decode cc pc = .ok (.getfield idx, 3)) (kk : W p l e R s m args below meth c H locs cells slots Q (F0 m (pc + 3) ls (.ref (g.1 + 18) :: rest))) : W p l e R s m args below meth c H locs cells slots Q (F0 m pc ls (.ref (g.1 + k) :: rest)) := u_get X Y (kd_lt hk (by decide)) (cX_7 hk) fw_X7 (T := TX7) rfl 3 (by decide) hl rfl rfl hdg kk
theorem g_7_4 (X : uX p d R s m args c cc nL own) (Y : uY g 117 (cX g t f) s H locs) (hk : kd k = 7) (hl : Cond.fieldLink own idx RX7 "past" "LBottomryLoans$Past;" ∈ T0) (hdg : decode cc pc = .ok (.getfield idx, 3)) (kk : W p l e R s m args below meth c H locs cells slots Q (F0 m (pc + 3) ls (.ref (g.1 + 21) :: rest))) : W p l e R s m args below meth c H locs cells slots Q (F0 m pc ls (.ref (g.1 + k) :: rest)) := u_get X Y (kd_lt hk (by decide)) (cX_7 hk) fw_X7 (T := TX7) rfl 4 (by decide) hl rfl rfl hdg kk
theorem g_7_5 (X : uX p d R s m args c cc nL own) (Y : uY g 117 (cX g t f) s H locs) (hk : kd k = 7) (hl : Cond.fieldLink own idx RX7 "firstImage" "LBottomryLoans$Image;" ∈ T0) (hdg : decode cc pc = .ok (.getfield idx, 3)) (kk : W p l e R s m args below meth c H locs cells slots Q (F0 m (pc + 3) ls (.ref (g.1 + 83) :: rest))) : W p l e R s m args below meth c H locs cells slots Q (F0 m pc ls (.ref (g.1 + k) :: rest)) := u_get X Y (kd_lt hk (by decide)) (cX_7 hk) fw_X7 (T := TX7) rfl 5 (by decide) hl rfl rfl hdg kk
theorem g_7_6 (X : uX p d R s m args c cc nL own) (Y : uY g 117 (cX g t f) s H locs) (hk : kd k = 7) (hl : Cond.fieldLink own idx RX7 "secondImage" "LBottomryLoans$Image;" ∈ T0) (hdg : decode cc pc = .ok (.getfield idx, 3)) (kk : W p l e R s m args below meth c H locs cells slots Q (F0 m (pc + 3) ls (.ref (g.1 + 87) :: rest))) : W p l e R s m args below meth c H locs cells slots Q (F0 m pc ls (.ref (g.1 + k) :: rest)) := u_get X Y (kd_lt hk (by decide)) (cX_7 hk) fw_X7 (T := TX7) rfl 6 (by decide) hl rfl rfl hdg kk
theorem g_7_7 (X : uX p d R s m args c cc nL own) (Y : uY g 117 (cX g t f) s H locs) (hk : kd k = 7) (hl : Cond.fieldLink own idx RX7 "planner" "LBottomryLoans$Planner;" ∈ T0) (hdg : decode cc pc = .ok (.getfield idx, 3)) (kk : W p l e R s m args below meth c H locs cells slots Q (F0 m (pc + 3) ls (.ref (g.1 + 91) :: rest))) : W p l e R s m args below meth c H locs cells slots Q (F0 m pc ls (.ref (g.1 + k) :: rest)) := u_get X Y (kd_lt hk (by decide)) (cX_7 hk) fw_X7 (T := TX7) rfl 7 (by decide) hl rfl rfl hdg kk
theorem g_7_8 (X : uX p d R s m args c cc nL own) (Y : uY g 117 (cX g t f) s H locs) (hk : kd k = 7) (hl : Cond.fieldLink own idx RX7 "toldPaid" "LBottomryLoans$Table;" ∈ T0) (hdg : decode cc pc = .ok (.getfield idx, 3)) (kk : W p l e R s m args below meth c H locs cells slots Q (F0 m (pc + 3) ls (.ref (g.1 + 96) :: rest))) : W p l e R s m args below meth c H locs cells slots Q (F0 m pc ls (.ref (g.1 + k) :: rest)) := u_get X Y (kd_lt hk (by decide)) (cX_7 hk) fw_X7 (T := TX7) rfl 8 (by decide) hl rfl rfl hdg kk
theorem g_7_9 (X : uX p d R s m args c cc nL own) (Y : uY g 117 (cX g t f) s H locs) (hk : kd k = 7) (hl : Cond.fieldLink own idx RX7 "book" "LBottomryLoans$Table;" ∈ T0) (hdg : decode cc pc = .ok (.getfield idx, 3)) (kk : W p l e R s m args below meth c H locs cells slots Q (F0 m (pc + 3) ls (.ref (g.1 + 98) :: rest))) : W p l e R s m args below meth c H locs cells slots Q (F0 m pc ls (.ref (g.1 + k) :: rest)) := u_get X Y (kd_lt hk (by decide)) (cX_7 hk) fw_X7 (T := TX7) rfl 9 (by decide) hl rfl rfl hdg kk
theorem g_7_10 (X : uX p d R s m args c cc nL own) (Y : uY g 117 (cX g t f) s H locs) (hk : kd k = 7) (hl : Cond.fieldLink own idx RX7 "faultPlace" "I" ∈ T0) (hdg : decode cc pc = .ok (.getfield idx, 3)) (kk : W p l e R s m args below meth c H locs cells slots Q (F0 m (pc + 3) ls (.int (iV (t k 10)) :: rest))) : W p l e R s m args below meth c H locs cells slots Q (F0 m pc ls (.ref (g.1 + k) :: rest)) := u_get X Y (kd_lt hk (by decide)) (cX_7 hk) fw_X7 (T := TX7) rfl 10 (by decide) hl rfl rfl hdg kk
theorem p_7_10 (X : uX p d R s m args c cc nL own) (Y : uY g 117 (cX g t f) s H locs) (hk : kd k = 7) (hl : Cond.fieldLink own idx RX7 "faultPlace" "I" ∈ T0) {z : Int} (hdg : decode cc pc = .ok (.putfield idx, 3)) (kk : ∀ (H1 : Heap) (locs1 : List Loc), uY g 117 (cX g (up2 t k 10 z) f) s H1 locs1 → W p l e R s m args below meth c H1 locs1 cells slots Q (F0 m (pc + 3) ls rest)) : W p l e R s m args below meth c H locs cells slots Q (F0 m pc ls (.int (iV z) :: .ref (g.1 + k) :: rest)) := u_put X Y (kd_lt hk (by decide)) (cX_7 hk) fw_X7 tyX7 tyX7_ok nmX7 (T := TX7) rfl 10 (by decide) hl rfl rfl rfl rfl (Nat.le_of_ble_eq_true rfl) hdg (fun H1 locs1 Y1 => kk H1 locs1 (by rw [cX_up (up2 t k 10 z) f (fun i hi => by funext q; simp [up2, hi]) (fun _ _ => rfl) (by rw [cX_7 hk]; simp [up2])] at Y1; exact Y1))
theorem g_7_11 (X : uX p d R s m args c cc nL own) (Y : uY g 117 (cX g t f) s H locs) (hk : kd k = 7) (hl : Cond.fieldLink own idx RX7 "drawSeed" "I" ∈ T0) (hdg : decode cc pc = .ok (.getfield idx, 3)) (kk : W p l e R s m args below meth c H locs cells slots Q (F0 m (pc + 3) ls (.int (iV (t k 11)) :: rest))) : W p l e R s m args below meth c H locs cells slots Q (F0 m pc ls (.ref (g.1 + k) :: rest)) := u_get X Y (kd_lt hk (by decide)) (cX_7 hk) fw_X7 (T := TX7) rfl 11 (by decide) hl rfl rfl hdg kk
theorem p_7_11 (X : uX p d R s m args c cc nL own) (Y : uY g 117 (cX g t f) s H locs) (hk : kd k = 7) (hl : Cond.fieldLink own idx RX7 "drawSeed" "I" ∈ T0) {z : Int} (hdg : decode cc pc = .ok (.putfield idx, 3)) (kk : ∀ (H1 : Heap) (locs1 : List Loc), uY g 117 (cX g (up2 t k 11 z) f) s H1 locs1 → W p l e R s m args below meth c H1 locs1 cells slots Q (F0 m (pc + 3) ls rest)) : W p l e R s m args below meth c H locs cells slots Q (F0 m pc ls (.int (iV z) :: .ref (g.1 + k) :: rest)) := u_put X Y (kd_lt hk (by decide)) (cX_7 hk) fw_X7 tyX7 tyX7_ok nmX7 (T := TX7) rfl 11 (by decide) hl rfl rfl rfl rfl (Nat.le_of_ble_eq_true rfl) hdg (fun H1 locs1 Y1 => kk H1 locs1 (by rw [cX_up (up2 t k 11 z) f (fun i hi => by funext q; simp [up2, hi]) (fun _ _ => rfl) (by rw [cX_7 hk]; simp [up2])] at Y1; exact Y1))
theorem rv_7 (Y : uY g 117 (cX g t f) s H locs) (hk : kd k = 7) : ∃ cell : Cell, H[g.1 + k]? = some cell ∧ cell.vm.isStatics = false ∧ s.vm.findClass RX7 = some cell.cls := u_recv Y (kd_lt hk (by decide)) (cX_7 hk) (T := TX7) rfl
theorem g_8_0 (X : uX p d R s m args c cc nL own) (Y : uY g 117 (cX g t f) s H locs) (hk : kd k = 8) (hl : Cond.fieldLink own idx RX8 "w" "[I" ∈ T0) (hdg : decode cc pc = .ok (.getfield idx, 3)) (kk : W p l e R s m args below meth c H locs cells slots Q (F0 m (pc + 3) ls (.ref (g.1 + 101) :: rest))) : W p l e R s m args below meth c H locs cells slots Q (F0 m pc ls (.ref (g.1 + k) :: rest)) := u_get X Y (kd_lt hk (by decide)) (cX_8 hk) fw_X8 (T := TX8) rfl 0 (by decide) hl rfl rfl hdg kk
theorem g_8_1 (X : uX p d R s m args c cc nL own) (Y : uY g 117 (cX g t f) s H locs) (hk : kd k = 8) (hl : Cond.fieldLink own idx RX8 "isKept" "[Z" ∈ T0) (hdg : decode cc pc = .ok (.getfield idx, 3)) (kk : W p l e R s m args below meth c H locs cells slots Q (F0 m (pc + 3) ls (.ref (g.1 + 102) :: rest))) : W p l e R s m args below meth c H locs cells slots Q (F0 m pc ls (.ref (g.1 + k) :: rest)) := u_get X Y (kd_lt hk (by decide)) (cX_8 hk) fw_X8 (T := TX8) rfl 1 (by decide) hl rfl rfl hdg kk
theorem g_8_2 (X : uX p d R s m args c cc nL own) (Y : uY g 117 (cX g t f) s H locs) (hk : kd k = 8) (hl : Cond.fieldLink own idx RX8 "undoes" "I" ∈ T0) (hdg : decode cc pc = .ok (.getfield idx, 3)) (kk : W p l e R s m args below meth c H locs cells slots Q (F0 m (pc + 3) ls (.int (iV (t k 2)) :: rest))) : W p l e R s m args below meth c H locs cells slots Q (F0 m pc ls (.ref (g.1 + k) :: rest)) := u_get X Y (kd_lt hk (by decide)) (cX_8 hk) fw_X8 (T := TX8) rfl 2 (by decide) hl rfl rfl hdg kk
theorem p_8_2 (X : uX p d R s m args c cc nL own) (Y : uY g 117 (cX g t f) s H locs) (hk : kd k = 8) (hl : Cond.fieldLink own idx RX8 "undoes" "I" ∈ T0) {z : Int} (hdg : decode cc pc = .ok (.putfield idx, 3)) (kk : ∀ (H1 : Heap) (locs1 : List Loc), uY g 117 (cX g (up2 t k 2 z) f) s H1 locs1 → W p l e R s m args below meth c H1 locs1 cells slots Q (F0 m (pc + 3) ls rest)) : W p l e R s m args below meth c H locs cells slots Q (F0 m pc ls (.int (iV z) :: .ref (g.1 + k) :: rest)) := u_put X Y (kd_lt hk (by decide)) (cX_8 hk) fw_X8 tyX8 tyX8_ok nmX8 (T := TX8) rfl 2 (by decide) hl rfl rfl rfl rfl (Nat.le_of_ble_eq_true rfl) hdg (fun H1 locs1 Y1 => kk H1 locs1 (by rw [cX_up (up2 t k 2 z) f (fun i hi => by funext q; simp [up2, hi]) (fun _ _ => rfl) (by rw [cX_8 hk]; simp [up2])] at Y1; exact Y1))
theorem g_8_3 (X : uX p d R s m args c cc nL own) (Y : uY g 117 (cX g t f) s H locs) (hk : kd k = 8) (hl : Cond.fieldLink own idx RX8 "isShip" "Z" ∈ T0) (hdg : decode cc pc = .ok (.getfield idx, 3)) (kk : W p l e R s m args below meth c H locs cells slots Q (F0 m (pc + 3) ls (.int (iV (t k 3)) :: rest))) : W p l e R s m args below meth c H locs cells slots Q (F0 m pc ls (.ref (g.1 + k) :: rest)) := u_get X Y (kd_lt hk (by decide)) (cX_8 hk) fw_X8 (T := TX8) rfl 3 (by decide) hl rfl rfl hdg kk
theorem p_8_3 (X : uX p d R s m args c cc nL own) (Y : uY g 117 (cX g t f) s H locs) (hk : kd k = 8) (hl : Cond.fieldLink own idx RX8 "isShip" "Z" ∈ T0) {z : Int} (hz : z = 0 ∨ z = 1) (hdg : decode cc pc = .ok (.putfield idx, 3)) (kk : ∀ (H1 : Heap) (locs1 : List Loc), uY g 117 (cX g (up2 t k 3 z) f) s H1 locs1 → W p l e R s m args below meth c H1 locs1 cells slots Q (F0 m (pc + 3) ls rest)) : W p l e R s m args below meth c H locs cells slots Q (F0 m pc ls (.int (iV z) :: .ref (g.1 + k) :: rest)) := u_put X Y (kd_lt hk (by decide)) (cX_8 hk) fw_X8 tyX8 tyX8_ok nmX8 (T := TX8) rfl 3 (by decide) hl rfl rfl (by rcases hz with rfl | rfl <;> rfl) (by rcases hz with rfl | rfl <;> rfl) (Nat.le_of_ble_eq_true rfl) hdg (fun H1 locs1 Y1 => kk H1 locs1 (by rw [cX_up (up2 t k 3 z) f (fun i hi => by funext q; simp [up2, hi]) (fun _ _ => rfl) (by rw [cX_8 hk]; simp [up2])] at Y1; exact Y1))
theorem g_8_4 (X : uX p d R s m args c cc nL own) (Y : uY g 117 (cX g t f) s H locs) (hk : kd k = 8) (hl : Cond.fieldLink own idx RX8 "worthOf" "I" ∈ T0) (hdg : decode cc pc = .ok (.getfield idx, 3)) (kk : W p l e R s m args below meth c H locs cells slots Q (F0 m (pc + 3) ls (.int (iV (t k 4)) :: rest))) : W p l e R s m args below meth c H locs cells slots Q (F0 m pc ls (.ref (g.1 + k) :: rest)) := u_get X Y (kd_lt hk (by decide)) (cX_8 hk) fw_X8 (T := TX8) rfl 4 (by decide) hl rfl rfl hdg kk
theorem p_8_4 (X : uX p d R s m args c cc nL own) (Y : uY g 117 (cX g t f) s H locs) (hk : kd k = 8) (hl : Cond.fieldLink own idx RX8 "worthOf" "I" ∈ T0) {z : Int} (hdg : decode cc pc = .ok (.putfield idx, 3)) (kk : ∀ (H1 : Heap) (locs1 : List Loc), uY g 117 (cX g (up2 t k 4 z) f) s H1 locs1 → W p l e R s m args below meth c H1 locs1 cells slots Q (F0 m (pc + 3) ls rest)) : W p l e R s m args below meth c H locs cells slots Q (F0 m pc ls (.int (iV z) :: .ref (g.1 + k) :: rest)) := u_put X Y (kd_lt hk (by decide)) (cX_8 hk) fw_X8 tyX8 tyX8_ok nmX8 (T := TX8) rfl 4 (by decide) hl rfl rfl rfl rfl (Nat.le_of_ble_eq_true rfl) hdg (fun H1 locs1 Y1 => kk H1 locs1 (by rw [cX_up (up2 t k 4 z) f (fun i hi => by funext q; simp [up2, hi]) (fun _ _ => rfl) (by rw [cX_8 hk]; simp [up2])] at Y1; exact Y1))
theorem g_8_5 (X : uX p d R s m args c cc nL own) (Y : uY g 117 (cX g t f) s H locs) (hk : kd k = 8) (hl : Cond.fieldLink own idx RX8 "freightOf" "I" ∈ T0) (hdg : decode cc pc = .ok (.getfield idx, 3)) (kk : W p l e R s m args below meth c H locs cells slots Q (F0 m (pc + 3) ls (.int (iV (t k 5)) :: rest))) : W p l e R s m args below meth c H locs cells slots Q (F0 m pc ls (.ref (g.1 + k) :: rest)) := u_get X Y (kd_lt hk (by decide)) (cX_8 hk) fw_X8 (T := TX8) rfl 5 (by decide) hl rfl rfl hdg kk
theorem p_8_5 (X : uX p d R s m args c cc nL own) (Y : uY g 117 (cX g t f) s H locs) (hk : kd k = 8) (hl : Cond.fieldLink own idx RX8 "freightOf" "I" ∈ T0) {z : Int} (hdg : decode cc pc = .ok (.putfield idx, 3)) (kk : ∀ (H1 : Heap) (locs1 : List Loc), uY g 117 (cX g (up2 t k 5 z) f) s H1 locs1 → W p l e R s m args below meth c H1 locs1 cells slots Q (F0 m (pc + 3) ls rest)) : W p l e R s m args below meth c H locs cells slots Q (F0 m pc ls (.int (iV z) :: .ref (g.1 + k) :: rest)) := u_put X Y (kd_lt hk (by decide)) (cX_8 hk) fw_X8 tyX8 tyX8_ok nmX8 (T := TX8) rfl 5 (by decide) hl rfl rfl rfl rfl (Nat.le_of_ble_eq_true rfl) hdg (fun H1 locs1 Y1 => kk H1 locs1 (by rw [cX_up (up2 t k 5 z) f (fun i hi => by funext q; simp [up2, hi]) (fun _ _ => rfl) (by rw [cX_8 hk]; simp [up2])] at Y1; exact Y1))
theorem g_8_6 (X : uX p d R s m args c cc nL own) (Y : uY g 117 (cX g t f) s H locs) (hk : kd k = 8) (hl : Cond.fieldLink own idx RX8 "legs" "I" ∈ T0) (hdg : decode cc pc = .ok (.getfield idx, 3)) (kk : W p l e R s m args below meth c H locs cells slots Q (F0 m (pc + 3) ls (.int (iV (t k 6)) :: rest))) : W p l e R s m args below meth c H locs cells slots Q (F0 m pc ls (.ref (g.1 + k) :: rest)) := u_get X Y (kd_lt hk (by decide)) (cX_8 hk) fw_X8 (T := TX8) rfl 6 (by decide) hl rfl rfl hdg kk
theorem p_8_6 (X : uX p d R s m args c cc nL own) (Y : uY g 117 (cX g t f) s H locs) (hk : kd k = 8) (hl : Cond.fieldLink own idx RX8 "legs" "I" ∈ T0) {z : Int} (hdg : decode cc pc = .ok (.putfield idx, 3)) (kk : ∀ (H1 : Heap) (locs1 : List Loc), uY g 117 (cX g (up2 t k 6 z) f) s H1 locs1 → W p l e R s m args below meth c H1 locs1 cells slots Q (F0 m (pc + 3) ls rest)) : W p l e R s m args below meth c H locs cells slots Q (F0 m pc ls (.int (iV z) :: .ref (g.1 + k) :: rest)) := u_put X Y (kd_lt hk (by decide)) (cX_8 hk) fw_X8 tyX8 tyX8_ok nmX8 (T := TX8) rfl 6 (by decide) hl rfl rfl rfl rfl (Nat.le_of_ble_eq_true rfl) hdg (fun H1 locs1 Y1 => kk H1 locs1 (by rw [cX_up (up2 t k 6 z) f (fun i hi => by funext q; simp [up2, hi]) (fun _ _ => rfl) (by rw [cX_8 hk]; simp [up2])] at Y1; exact Y1))
theorem g_8_7 (X : uX p d R s m args c cc nL own) (Y : uY g 117 (cX g t f) s H locs) (hk : kd k = 8) (hl : Cond.fieldLink own idx RX8 "odds" "[I" ∈ T0) (hdg : decode cc pc = .ok (.getfield idx, 3)) (kk : W p l e R s m args below meth c H locs cells slots Q (F0 m (pc + 3) ls (.ref (g.1 + 103) :: rest))) : W p l e R s m args below meth c H locs cells slots Q (F0 m pc ls (.ref (g.1 + k) :: rest)) := u_get X Y (kd_lt hk (by decide)) (cX_8 hk) fw_X8 (T := TX8) rfl 7 (by decide) hl rfl rfl hdg kk
theorem g_8_8 (X : uX p d R s m args c cc nL own) (Y : uY g 117 (cX g t f) s H locs) (hk : kd k = 8) (hl : Cond.fieldLink own idx RX8 "worse" "[I" ∈ T0) (hdg : decode cc pc = .ok (.getfield idx, 3)) (kk : W p l e R s m args below meth c H locs cells slots Q (F0 m (pc + 3) ls (.ref (g.1 + 104) :: rest))) : W p l e R s m args below meth c H locs cells slots Q (F0 m pc ls (.ref (g.1 + k) :: rest)) := u_get X Y (kd_lt hk (by decide)) (cX_8 hk) fw_X8 (T := TX8) rfl 8 (by decide) hl rfl rfl hdg kk
theorem g_8_9 (X : uX p d R s m args c cc nL own) (Y : uY g 117 (cX g t f) s H locs) (hk : kd k = 8) (hl : Cond.fieldLink own idx RX8 "cost" "[I" ∈ T0) (hdg : decode cc pc = .ok (.getfield idx, 3)) (kk : W p l e R s m args below meth c H locs cells slots Q (F0 m (pc + 3) ls (.ref (g.1 + 105) :: rest))) : W p l e R s m args below meth c H locs cells slots Q (F0 m pc ls (.ref (g.1 + k) :: rest)) := u_get X Y (kd_lt hk (by decide)) (cX_8 hk) fw_X8 (T := TX8) rfl 9 (by decide) hl rfl rfl hdg kk
theorem g_8_10 (X : uX p d R s m args c cc nL own) (Y : uY g 117 (cX g t f) s H locs) (hk : kd k = 8) (hl : Cond.fieldLink own idx RX8 "lenders" "I" ∈ T0) (hdg : decode cc pc = .ok (.getfield idx, 3)) (kk : W p l e R s m args below meth c H locs cells slots Q (F0 m (pc + 3) ls (.int (iV (t k 10)) :: rest))) : W p l e R s m args below meth c H locs cells slots Q (F0 m pc ls (.ref (g.1 + k) :: rest)) := u_get X Y (kd_lt hk (by decide)) (cX_8 hk) fw_X8 (T := TX8) rfl 10 (by decide) hl rfl rfl hdg kk
theorem p_8_10 (X : uX p d R s m args c cc nL own) (Y : uY g 117 (cX g t f) s H locs) (hk : kd k = 8) (hl : Cond.fieldLink own idx RX8 "lenders" "I" ∈ T0) {z : Int} (hdg : decode cc pc = .ok (.putfield idx, 3)) (kk : ∀ (H1 : Heap) (locs1 : List Loc), uY g 117 (cX g (up2 t k 10 z) f) s H1 locs1 → W p l e R s m args below meth c H1 locs1 cells slots Q (F0 m (pc + 3) ls rest)) : W p l e R s m args below meth c H locs cells slots Q (F0 m pc ls (.int (iV z) :: .ref (g.1 + k) :: rest)) := u_put X Y (kd_lt hk (by decide)) (cX_8 hk) fw_X8 tyX8 tyX8_ok nmX8 (T := TX8) rfl 10 (by decide) hl rfl rfl rfl rfl (Nat.le_of_ble_eq_true rfl) hdg (fun H1 locs1 Y1 => kk H1 locs1 (by rw [cX_up (up2 t k 10 z) f (fun i hi => by funext q; simp [up2, hi]) (fun _ _ => rfl) (by rw [cX_8 hk]; simp [up2])] at Y1; exact Y1))
theorem g_8_11 (X : uX p d R s m args c cc nL own) (Y : uY g 117 (cX g t f) s H locs) (hk : kd k = 8) (hl : Cond.fieldLink own idx RX8 "has" "[I" ∈ T0) (hdg : decode cc pc = .ok (.getfield idx, 3)) (kk : W p l e R s m args below meth c H locs cells slots Q (F0 m (pc + 3) ls (.ref (g.1 + 106) :: rest))) : W p l e R s m args below meth c H locs cells slots Q (F0 m pc ls (.ref (g.1 + k) :: rest)) := u_get X Y (kd_lt hk (by decide)) (cX_8 hk) fw_X8 (T := TX8) rfl 11 (by decide) hl rfl rfl hdg kk
theorem g_8_12 (X : uX p d R s m args c cc nL own) (Y : uY g 117 (cX g t f) s H locs) (hk : kd k = 8) (hl : Cond.fieldLink own idx RX8 "asks" "[I" ∈ T0) (hdg : decode cc pc = .ok (.getfield idx, 3)) (kk : W p l e R s m args below meth c H locs cells slots Q (F0 m (pc + 3) ls (.ref (g.1 + 107) :: rest))) : W p l e R s m args below meth c H locs cells slots Q (F0 m pc ls (.ref (g.1 + k) :: rest)) := u_get X Y (kd_lt hk (by decide)) (cX_8 hk) fw_X8 (T := TX8) rfl 12 (by decide) hl rfl rfl hdg kk
theorem g_8_13 (X : uX p d R s m args c cc nL own) (Y : uY g 117 (cX g t f) s H locs) (hk : kd k = 8) (hl : Cond.fieldLink own idx RX8 "text" "[I" ∈ T0) (hdg : decode cc pc = .ok (.getfield idx, 3)) (kk : W p l e R s m args below meth c H locs cells slots Q (F0 m (pc + 3) ls (.ref (g.1 + 108) :: rest))) : W p l e R s m args below meth c H locs cells slots Q (F0 m pc ls (.ref (g.1 + k) :: rest)) := u_get X Y (kd_lt hk (by decide)) (cX_8 hk) fw_X8 (T := TX8) rfl 13 (by decide) hl rfl rfl hdg kk
theorem g_8_14 (X : uX p d R s m args c cc nL own) (Y : uY g 117 (cX g t f) s H locs) (hk : kd k = 8) (hl : Cond.fieldLink own idx RX8 "texted" "I" ∈ T0) (hdg : decode cc pc = .ok (.getfield idx, 3)) (kk : W p l e R s m args below meth c H locs cells slots Q (F0 m (pc + 3) ls (.int (iV (t k 14)) :: rest))) : W p l e R s m args below meth c H locs cells slots Q (F0 m pc ls (.ref (g.1 + k) :: rest)) := u_get X Y (kd_lt hk (by decide)) (cX_8 hk) fw_X8 (T := TX8) rfl 14 (by decide) hl rfl rfl hdg kk
theorem p_8_14 (X : uX p d R s m args c cc nL own) (Y : uY g 117 (cX g t f) s H locs) (hk : kd k = 8) (hl : Cond.fieldLink own idx RX8 "texted" "I" ∈ T0) {z : Int} (hdg : decode cc pc = .ok (.putfield idx, 3)) (kk : ∀ (H1 : Heap) (locs1 : List Loc), uY g 117 (cX g (up2 t k 14 z) f) s H1 locs1 → W p l e R s m args below meth c H1 locs1 cells slots Q (F0 m (pc + 3) ls rest)) : W p l e R s m args below meth c H locs cells slots Q (F0 m pc ls (.int (iV z) :: .ref (g.1 + k) :: rest)) := u_put X Y (kd_lt hk (by decide)) (cX_8 hk) fw_X8 tyX8 tyX8_ok nmX8 (T := TX8) rfl 14 (by decide) hl rfl rfl rfl rfl (Nat.le_of_ble_eq_true rfl) hdg (fun H1 locs1 Y1 => kk H1 locs1 (by rw [cX_up (up2 t k 14 z) f (fun i hi => by funext q; simp [up2, hi]) (fun _ _ => rfl) (by rw [cX_8 hk]; simp [up2])] at Y1; exact Y1))
theorem g_8_15 (X : uX p d R s m args c cc nL own) (Y : uY g 117 (cX g t f) s H locs) (hk : kd k = 8) (hl : Cond.fieldLink own idx RX8 "at" "I" ∈ T0) (hdg : decode cc pc = .ok (.getfield idx, 3)) (kk : W p l e R s m args below meth c H locs cells slots Q (F0 m (pc + 3) ls (.int (iV (t k 15)) :: rest))) : W p l e R s m args below meth c H locs cells slots Q (F0 m pc ls (.ref (g.1 + k) :: rest)) := u_get X Y (kd_lt hk (by decide)) (cX_8 hk) fw_X8 (T := TX8) rfl 15 (by decide) hl rfl rfl hdg kk
theorem p_8_15 (X : uX p d R s m args c cc nL own) (Y : uY g 117 (cX g t f) s H locs) (hk : kd k = 8) (hl : Cond.fieldLink own idx RX8 "at" "I" ∈ T0) {z : Int} (hdg : decode cc pc = .ok (.putfield idx, 3)) (kk : ∀ (H1 : Heap) (locs1 : List Loc), uY g 117 (cX g (up2 t k 15 z) f) s H1 locs1 → W p l e R s m args below meth c H1 locs1 cells slots Q (F0 m (pc + 3) ls rest)) : W p l e R s m args below meth c H locs cells slots Q (F0 m pc ls (.int (iV z) :: .ref (g.1 + k) :: rest)) := u_put X Y (kd_lt hk (by decide)) (cX_8 hk) fw_X8 tyX8 tyX8_ok nmX8 (T := TX8) rfl 15 (by decide) hl rfl rfl rfl rfl (Nat.le_of_ble_eq_true rfl) hdg (fun H1 locs1 Y1 => kk H1 locs1 (by rw [cX_up (up2 t k 15 z) f (fun i hi => by funext q; simp [up2, hi]) (fun _ _ => rfl) (by rw [cX_8 hk]; simp [up2])] at Y1; exact Y1))
theorem g_8_16 (X : uX p d R s m args c cc nL own) (Y : uY g 117 (cX g t f) s H locs) (hk : kd k = 8) (hl : Cond.fieldLink own idx RX8 "start" "I" ∈ T0) (hdg : decode cc pc = .ok (.getfield idx, 3)) (kk : W p l e R s m args below meth c H locs cells slots Q (F0 m (pc + 3) ls (.int (iV (t k 16)) :: rest))) : W p l e R s m args below meth c H locs cells slots Q (F0 m pc ls (.ref (g.1 + k) :: rest)) := u_get X Y (kd_lt hk (by decide)) (cX_8 hk) fw_X8 (T := TX8) rfl 16 (by decide) hl rfl rfl hdg kk
theorem p_8_16 (X : uX p d R s m args c cc nL own) (Y : uY g 117 (cX g t f) s H locs) (hk : kd k = 8) (hl : Cond.fieldLink own idx RX8 "start" "I" ∈ T0) {z : Int} (hdg : decode cc pc = .ok (.putfield idx, 3)) (kk : ∀ (H1 : Heap) (locs1 : List Loc), uY g 117 (cX g (up2 t k 16 z) f) s H1 locs1 → W p l e R s m args below meth c H1 locs1 cells slots Q (F0 m (pc + 3) ls rest)) : W p l e R s m args below meth c H locs cells slots Q (F0 m pc ls (.int (iV z) :: .ref (g.1 + k) :: rest)) := u_put X Y (kd_lt hk (by decide)) (cX_8 hk) fw_X8 tyX8 tyX8_ok nmX8 (T := TX8) rfl 16 (by decide) hl rfl rfl rfl rfl (Nat.le_of_ble_eq_true rfl) hdg (fun H1 locs1 Y1 => kk H1 locs1 (by rw [cX_up (up2 t k 16 z) f (fun i hi => by funext q; simp [up2, hi]) (fun _ _ => rfl) (by rw [cX_8 hk]; simp [up2])] at Y1; exact Y1))
theorem g_8_17 (X : uX p d R s m args c cc nL own) (Y : uY g 117 (cX g t f) s H locs) (hk : kd k = 8) (hl : Cond.fieldLink own idx RX8 "number" "I" ∈ T0) (hdg : decode cc pc = .ok (.getfield idx, 3)) (kk : W p l e R s m args below meth c H locs cells slots Q (F0 m (pc + 3) ls (.int (iV (t k 17)) :: rest))) : W p l e R s m args below meth c H locs cells slots Q (F0 m pc ls (.ref (g.1 + k) :: rest)) := u_get X Y (kd_lt hk (by decide)) (cX_8 hk) fw_X8 (T := TX8) rfl 17 (by decide) hl rfl rfl hdg kk
theorem p_8_17 (X : uX p d R s m args c cc nL own) (Y : uY g 117 (cX g t f) s H locs) (hk : kd k = 8) (hl : Cond.fieldLink own idx RX8 "number" "I" ∈ T0) {z : Int} (hdg : decode cc pc = .ok (.putfield idx, 3)) (kk : ∀ (H1 : Heap) (locs1 : List Loc), uY g 117 (cX g (up2 t k 17 z) f) s H1 locs1 → W p l e R s m args below meth c H1 locs1 cells slots Q (F0 m (pc + 3) ls rest)) : W p l e R s m args below meth c H locs cells slots Q (F0 m pc ls (.int (iV z) :: .ref (g.1 + k) :: rest)) := u_put X Y (kd_lt hk (by decide)) (cX_8 hk) fw_X8 tyX8 tyX8_ok nmX8 (T := TX8) rfl 17 (by decide) hl rfl rfl rfl rfl (Nat.le_of_ble_eq_true rfl) hdg (fun H1 locs1 Y1 => kk H1 locs1 (by rw [cX_up (up2 t k 17 z) f (fun i hi => by funext q; simp [up2, hi]) (fun _ _ => rfl) (by rw [cX_8 hk]; simp [up2])] at Y1; exact Y1))
theorem g_8_18 (X : uX p d R s m args c cc nL own) (Y : uY g 117 (cX g t f) s H locs) (hk : kd k = 8) (hl : Cond.fieldLink own idx RX8 "faulty" "I" ∈ T0) (hdg : decode cc pc = .ok (.getfield idx, 3)) (kk : W p l e R s m args below meth c H locs cells slots Q (F0 m (pc + 3) ls (.int (iV (t k 18)) :: rest))) : W p l e R s m args below meth c H locs cells slots Q (F0 m pc ls (.ref (g.1 + k) :: rest)) := u_get X Y (kd_lt hk (by decide)) (cX_8 hk) fw_X8 (T := TX8) rfl 18 (by decide) hl rfl rfl hdg kk
theorem p_8_18 (X : uX p d R s m args c cc nL own) (Y : uY g 117 (cX g t f) s H locs) (hk : kd k = 8) (hl : Cond.fieldLink own idx RX8 "faulty" "I" ∈ T0) {z : Int} (hdg : decode cc pc = .ok (.putfield idx, 3)) (kk : ∀ (H1 : Heap) (locs1 : List Loc), uY g 117 (cX g (up2 t k 18 z) f) s H1 locs1 → W p l e R s m args below meth c H1 locs1 cells slots Q (F0 m (pc + 3) ls rest)) : W p l e R s m args below meth c H locs cells slots Q (F0 m pc ls (.int (iV z) :: .ref (g.1 + k) :: rest)) := u_put X Y (kd_lt hk (by decide)) (cX_8 hk) fw_X8 tyX8 tyX8_ok nmX8 (T := TX8) rfl 18 (by decide) hl rfl rfl rfl rfl (Nat.le_of_ble_eq_true rfl) hdg (fun H1 locs1 Y1 => kk H1 locs1 (by rw [cX_up (up2 t k 18 z) f (fun i hi => by funext q; simp [up2, hi]) (fun _ _ => rfl) (by rw [cX_8 hk]; simp [up2])] at Y1; exact Y1))
theorem g_8_19 (X : uX p d R s m args c cc nL own) (Y : uY g 117 (cX g t f) s H locs) (hk : kd k = 8) (hl : Cond.fieldLink own idx RX8 "faultAt" "I" ∈ T0) (hdg : decode cc pc = .ok (.getfield idx, 3)) (kk : W p l e R s m args below meth c H locs cells slots Q (F0 m (pc + 3) ls (.int (iV (t k 19)) :: rest))) : W p l e R s m args below meth c H locs cells slots Q (F0 m pc ls (.ref (g.1 + k) :: rest)) := u_get X Y (kd_lt hk (by decide)) (cX_8 hk) fw_X8 (T := TX8) rfl 19 (by decide) hl rfl rfl hdg kk
theorem p_8_19 (X : uX p d R s m args c cc nL own) (Y : uY g 117 (cX g t f) s H locs) (hk : kd k = 8) (hl : Cond.fieldLink own idx RX8 "faultAt" "I" ∈ T0) {z : Int} (hdg : decode cc pc = .ok (.putfield idx, 3)) (kk : ∀ (H1 : Heap) (locs1 : List Loc), uY g 117 (cX g (up2 t k 19 z) f) s H1 locs1 → W p l e R s m args below meth c H1 locs1 cells slots Q (F0 m (pc + 3) ls rest)) : W p l e R s m args below meth c H locs cells slots Q (F0 m pc ls (.int (iV z) :: .ref (g.1 + k) :: rest)) := u_put X Y (kd_lt hk (by decide)) (cX_8 hk) fw_X8 tyX8 tyX8_ok nmX8 (T := TX8) rfl 19 (by decide) hl rfl rfl rfl rfl (Nat.le_of_ble_eq_true rfl) hdg (fun H1 locs1 Y1 => kk H1 locs1 (by rw [cX_up (up2 t k 19 z) f (fun i hi => by funext q; simp [up2, hi]) (fun _ _ => rfl) (by rw [cX_8 hk]; simp [up2])] at Y1; exact Y1))
theorem g_8_20 (X : uX p d R s m args c cc nL own) (Y : uY g 117 (cX g t f) s H locs) (hk : kd k = 8) (hl : Cond.fieldLink own idx RX8 "hasShip" "Z" ∈ T0) (hdg : decode cc pc = .ok (.getfield idx, 3)) (kk : W p l e R s m args below meth c H locs cells slots Q (F0 m (pc + 3) ls (.int (iV (t k 20)) :: rest))) : W p l e R s m args below meth c H locs cells slots Q (F0 m pc ls (.ref (g.1 + k) :: rest)) := u_get X Y (kd_lt hk (by decide)) (cX_8 hk) fw_X8 (T := TX8) rfl 20 (by decide) hl rfl rfl hdg kk
theorem p_8_20 (X : uX p d R s m args c cc nL own) (Y : uY g 117 (cX g t f) s H locs) (hk : kd k = 8) (hl : Cond.fieldLink own idx RX8 "hasShip" "Z" ∈ T0) {z : Int} (hz : z = 0 ∨ z = 1) (hdg : decode cc pc = .ok (.putfield idx, 3)) (kk : ∀ (H1 : Heap) (locs1 : List Loc), uY g 117 (cX g (up2 t k 20 z) f) s H1 locs1 → W p l e R s m args below meth c H1 locs1 cells slots Q (F0 m (pc + 3) ls rest)) : W p l e R s m args below meth c H locs cells slots Q (F0 m pc ls (.int (iV z) :: .ref (g.1 + k) :: rest)) := u_put X Y (kd_lt hk (by decide)) (cX_8 hk) fw_X8 tyX8 tyX8_ok nmX8 (T := TX8) rfl 20 (by decide) hl rfl rfl (by rcases hz with rfl | rfl <;> rfl) (by rcases hz with rfl | rfl <;> rfl) (Nat.le_of_ble_eq_true rfl) hdg (fun H1 locs1 Y1 => kk H1 locs1 (by rw [cX_up (up2 t k 20 z) f (fun i hi => by funext q; simp [up2, hi]) (fun _ _ => rfl) (by rw [cX_8 hk]; simp [up2])] at Y1; exact Y1))
theorem g_8_21 (X : uX p d R s m args c cc nL own) (Y : uY g 117 (cX g t f) s H locs) (hk : kd k = 8) (hl : Cond.fieldLink own idx RX8 "readShip" "[I" ∈ T0) (hdg : decode cc pc = .ok (.getfield idx, 3)) (kk : W p l e R s m args below meth c H locs cells slots Q (F0 m (pc + 3) ls (.ref (g.1 + 109) :: rest))) : W p l e R s m args below meth c H locs cells slots Q (F0 m pc ls (.ref (g.1 + k) :: rest)) := u_get X Y (kd_lt hk (by decide)) (cX_8 hk) fw_X8 (T := TX8) rfl 21 (by decide) hl rfl rfl hdg kk
theorem g_8_22 (X : uX p d R s m args c cc nL own) (Y : uY g 117 (cX g t f) s H locs) (hk : kd k = 8) (hl : Cond.fieldLink own idx RX8 "readLegs" "I" ∈ T0) (hdg : decode cc pc = .ok (.getfield idx, 3)) (kk : W p l e R s m args below meth c H locs cells slots Q (F0 m (pc + 3) ls (.int (iV (t k 22)) :: rest))) : W p l e R s m args below meth c H locs cells slots Q (F0 m pc ls (.ref (g.1 + k) :: rest)) := u_get X Y (kd_lt hk (by decide)) (cX_8 hk) fw_X8 (T := TX8) rfl 22 (by decide) hl rfl rfl hdg kk
theorem p_8_22 (X : uX p d R s m args c cc nL own) (Y : uY g 117 (cX g t f) s H locs) (hk : kd k = 8) (hl : Cond.fieldLink own idx RX8 "readLegs" "I" ∈ T0) {z : Int} (hdg : decode cc pc = .ok (.putfield idx, 3)) (kk : ∀ (H1 : Heap) (locs1 : List Loc), uY g 117 (cX g (up2 t k 22 z) f) s H1 locs1 → W p l e R s m args below meth c H1 locs1 cells slots Q (F0 m (pc + 3) ls rest)) : W p l e R s m args below meth c H locs cells slots Q (F0 m pc ls (.int (iV z) :: .ref (g.1 + k) :: rest)) := u_put X Y (kd_lt hk (by decide)) (cX_8 hk) fw_X8 tyX8 tyX8_ok nmX8 (T := TX8) rfl 22 (by decide) hl rfl rfl rfl rfl (Nat.le_of_ble_eq_true rfl) hdg (fun H1 locs1 Y1 => kk H1 locs1 (by rw [cX_up (up2 t k 22 z) f (fun i hi => by funext q; simp [up2, hi]) (fun _ _ => rfl) (by rw [cX_8 hk]; simp [up2])] at Y1; exact Y1))
theorem g_8_23 (X : uX p d R s m args c cc nL own) (Y : uY g 117 (cX g t f) s H locs) (hk : kd k = 8) (hl : Cond.fieldLink own idx RX8 "readLeg" "[I" ∈ T0) (hdg : decode cc pc = .ok (.getfield idx, 3)) (kk : W p l e R s m args below meth c H locs cells slots Q (F0 m (pc + 3) ls (.ref (g.1 + 110) :: rest))) : W p l e R s m args below meth c H locs cells slots Q (F0 m pc ls (.ref (g.1 + k) :: rest)) := u_get X Y (kd_lt hk (by decide)) (cX_8 hk) fw_X8 (T := TX8) rfl 23 (by decide) hl rfl rfl hdg kk
theorem g_8_24 (X : uX p d R s m args c cc nL own) (Y : uY g 117 (cX g t f) s H locs) (hk : kd k = 8) (hl : Cond.fieldLink own idx RX8 "readLenders" "I" ∈ T0) (hdg : decode cc pc = .ok (.getfield idx, 3)) (kk : W p l e R s m args below meth c H locs cells slots Q (F0 m (pc + 3) ls (.int (iV (t k 24)) :: rest))) : W p l e R s m args below meth c H locs cells slots Q (F0 m pc ls (.ref (g.1 + k) :: rest)) := u_get X Y (kd_lt hk (by decide)) (cX_8 hk) fw_X8 (T := TX8) rfl 24 (by decide) hl rfl rfl hdg kk
theorem p_8_24 (X : uX p d R s m args c cc nL own) (Y : uY g 117 (cX g t f) s H locs) (hk : kd k = 8) (hl : Cond.fieldLink own idx RX8 "readLenders" "I" ∈ T0) {z : Int} (hdg : decode cc pc = .ok (.putfield idx, 3)) (kk : ∀ (H1 : Heap) (locs1 : List Loc), uY g 117 (cX g (up2 t k 24 z) f) s H1 locs1 → W p l e R s m args below meth c H1 locs1 cells slots Q (F0 m (pc + 3) ls rest)) : W p l e R s m args below meth c H locs cells slots Q (F0 m pc ls (.int (iV z) :: .ref (g.1 + k) :: rest)) := u_put X Y (kd_lt hk (by decide)) (cX_8 hk) fw_X8 tyX8 tyX8_ok nmX8 (T := TX8) rfl 24 (by decide) hl rfl rfl rfl rfl (Nat.le_of_ble_eq_true rfl) hdg (fun H1 locs1 Y1 => kk H1 locs1 (by rw [cX_up (up2 t k 24 z) f (fun i hi => by funext q; simp [up2, hi]) (fun _ _ => rfl) (by rw [cX_8 hk]; simp [up2])] at Y1; exact Y1))
theorem g_8_25 (X : uX p d R s m args c cc nL own) (Y : uY g 117 (cX g t f) s H locs) (hk : kd k = 8) (hl : Cond.fieldLink own idx RX8 "readLender" "[I" ∈ T0) (hdg : decode cc pc = .ok (.getfield idx, 3)) (kk : W p l e R s m args below meth c H locs cells slots Q (F0 m (pc + 3) ls (.ref (g.1 + 111) :: rest))) : W p l e R s m args below meth c H locs cells slots Q (F0 m pc ls (.ref (g.1 + k) :: rest)) := u_get X Y (kd_lt hk (by decide)) (cX_8 hk) fw_X8 (T := TX8) rfl 25 (by decide) hl rfl rfl hdg kk
theorem g_8_26 (X : uX p d R s m args c cc nL own) (Y : uY g 117 (cX g t f) s H locs) (hk : kd k = 8) (hl : Cond.fieldLink own idx RX8 "pays" "[I" ∈ T0) (hdg : decode cc pc = .ok (.getfield idx, 3)) (kk : W p l e R s m args below meth c H locs cells slots Q (F0 m (pc + 3) ls (.ref (g.1 + 112) :: rest))) : W p l e R s m args below meth c H locs cells slots Q (F0 m pc ls (.ref (g.1 + k) :: rest)) := u_get X Y (kd_lt hk (by decide)) (cX_8 hk) fw_X8 (T := TX8) rfl 26 (by decide) hl rfl rfl hdg kk
theorem g_8_27 (X : uX p d R s m args c cc nL own) (Y : uY g 117 (cX g t f) s H locs) (hk : kd k = 8) (hl : Cond.fieldLink own idx RX8 "rest" "I" ∈ T0) (hdg : decode cc pc = .ok (.getfield idx, 3)) (kk : W p l e R s m args below meth c H locs cells slots Q (F0 m (pc + 3) ls (.int (iV (t k 27)) :: rest))) : W p l e R s m args below meth c H locs cells slots Q (F0 m pc ls (.ref (g.1 + k) :: rest)) := u_get X Y (kd_lt hk (by decide)) (cX_8 hk) fw_X8 (T := TX8) rfl 27 (by decide) hl rfl rfl hdg kk
theorem p_8_27 (X : uX p d R s m args c cc nL own) (Y : uY g 117 (cX g t f) s H locs) (hk : kd k = 8) (hl : Cond.fieldLink own idx RX8 "rest" "I" ∈ T0) {z : Int} (hdg : decode cc pc = .ok (.putfield idx, 3)) (kk : ∀ (H1 : Heap) (locs1 : List Loc), uY g 117 (cX g (up2 t k 27 z) f) s H1 locs1 → W p l e R s m args below meth c H1 locs1 cells slots Q (F0 m (pc + 3) ls rest)) : W p l e R s m args below meth c H locs cells slots Q (F0 m pc ls (.int (iV z) :: .ref (g.1 + k) :: rest)) := u_put X Y (kd_lt hk (by decide)) (cX_8 hk) fw_X8 tyX8 tyX8_ok nmX8 (T := TX8) rfl 27 (by decide) hl rfl rfl rfl rfl (Nat.le_of_ble_eq_true rfl) hdg (fun H1 locs1 Y1 => kk H1 locs1 (by rw [cX_up (up2 t k 27 z) f (fun i hi => by funext q; simp [up2, hi]) (fun _ _ => rfl) (by rw [cX_8 hk]; simp [up2])] at Y1; exact Y1))
theorem g_8_28 (X : uX p d R s m args c cc nL own) (Y : uY g 117 (cX g t f) s H locs) (hk : kd k = 8) (hl : Cond.fieldLink own idx RX8 "before" "[I" ∈ T0) (hdg : decode cc pc = .ok (.getfield idx, 3)) (kk : W p l e R s m args below meth c H locs cells slots Q (F0 m (pc + 3) ls (.ref (g.1 + 113) :: rest))) : W p l e R s m args below meth c H locs cells slots Q (F0 m pc ls (.ref (g.1 + k) :: rest)) := u_get X Y (kd_lt hk (by decide)) (cX_8 hk) fw_X8 (T := TX8) rfl 28 (by decide) hl rfl rfl hdg kk
theorem g_8_29 (X : uX p d R s m args c cc nL own) (Y : uY g 117 (cX g t f) s H locs) (hk : kd k = 8) (hl : Cond.fieldLink own idx RX8 "planBest" "I" ∈ T0) (hdg : decode cc pc = .ok (.getfield idx, 3)) (kk : W p l e R s m args below meth c H locs cells slots Q (F0 m (pc + 3) ls (.int (iV (t k 29)) :: rest))) : W p l e R s m args below meth c H locs cells slots Q (F0 m pc ls (.ref (g.1 + k) :: rest)) := u_get X Y (kd_lt hk (by decide)) (cX_8 hk) fw_X8 (T := TX8) rfl 29 (by decide) hl rfl rfl hdg kk
theorem p_8_29 (X : uX p d R s m args c cc nL own) (Y : uY g 117 (cX g t f) s H locs) (hk : kd k = 8) (hl : Cond.fieldLink own idx RX8 "planBest" "I" ∈ T0) {z : Int} (hdg : decode cc pc = .ok (.putfield idx, 3)) (kk : ∀ (H1 : Heap) (locs1 : List Loc), uY g 117 (cX g (up2 t k 29 z) f) s H1 locs1 → W p l e R s m args below meth c H1 locs1 cells slots Q (F0 m (pc + 3) ls rest)) : W p l e R s m args below meth c H locs cells slots Q (F0 m pc ls (.int (iV z) :: .ref (g.1 + k) :: rest)) := u_put X Y (kd_lt hk (by decide)) (cX_8 hk) fw_X8 tyX8 tyX8_ok nmX8 (T := TX8) rfl 29 (by decide) hl rfl rfl rfl rfl (Nat.le_of_ble_eq_true rfl) hdg (fun H1 locs1 Y1 => kk H1 locs1 (by rw [cX_up (up2 t k 29 z) f (fun i hi => by funext q; simp [up2, hi]) (fun _ _ => rfl) (by rw [cX_8 hk]; simp [up2])] at Y1; exact Y1))
theorem g_8_30 (X : uX p d R s m args c cc nL own) (Y : uY g 117 (cX g t f) s H locs) (hk : kd k = 8) (hl : Cond.fieldLink own idx RX8 "planMost" "J" ∈ T0) (hdg : decode cc pc = .ok (.getfield idx, 3)) (kk : W p l e R s m args below meth c H locs cells slots Q (F0 m (pc + 3) ls (.long (lV (t k 30)) :: rest))) : W p l e R s m args below meth c H locs cells slots Q (F0 m pc ls (.ref (g.1 + k) :: rest)) := u_get X Y (kd_lt hk (by decide)) (cX_8 hk) fw_X8 (T := TX8) rfl 30 (by decide) hl rfl rfl hdg kk
theorem p_8_30 (X : uX p d R s m args c cc nL own) (Y : uY g 117 (cX g t f) s H locs) (hk : kd k = 8) (hl : Cond.fieldLink own idx RX8 "planMost" "J" ∈ T0) {z : Int} (hdg : decode cc pc = .ok (.putfield idx, 3)) (kk : ∀ (H1 : Heap) (locs1 : List Loc), uY g 117 (cX g (up2 t k 30 z) f) s H1 locs1 → W p l e R s m args below meth c H1 locs1 cells slots Q (F0 m (pc + 3) ls rest)) : W p l e R s m args below meth c H locs cells slots Q (F0 m pc ls (.long (lV z) :: .ref (g.1 + k) :: rest)) := u_put X Y (kd_lt hk (by decide)) (cX_8 hk) fw_X8 tyX8 tyX8_ok nmX8 (T := TX8) rfl 30 (by decide) hl rfl rfl rfl rfl (Nat.le_of_ble_eq_true rfl) hdg (fun H1 locs1 Y1 => kk H1 locs1 (by rw [cX_up (up2 t k 30 z) f (fun i hi => by funext q; simp [up2, hi]) (fun _ _ => rfl) (by rw [cX_8 hk]; simp [up2])] at Y1; exact Y1))
theorem g_8_31 (X : uX p d R s m args c cc nL own) (Y : uY g 117 (cX g t f) s H locs) (hk : kd k = 8) (hl : Cond.fieldLink own idx RX8 "tolds" "I" ∈ T0) (hdg : decode cc pc = .ok (.getfield idx, 3)) (kk : W p l e R s m args below meth c H locs cells slots Q (F0 m (pc + 3) ls (.int (iV (t k 31)) :: rest))) : W p l e R s m args below meth c H locs cells slots Q (F0 m pc ls (.ref (g.1 + k) :: rest)) := u_get X Y (kd_lt hk (by decide)) (cX_8 hk) fw_X8 (T := TX8) rfl 31 (by decide) hl rfl rfl hdg kk
theorem p_8_31 (X : uX p d R s m args c cc nL own) (Y : uY g 117 (cX g t f) s H locs) (hk : kd k = 8) (hl : Cond.fieldLink own idx RX8 "tolds" "I" ∈ T0) {z : Int} (hdg : decode cc pc = .ok (.putfield idx, 3)) (kk : ∀ (H1 : Heap) (locs1 : List Loc), uY g 117 (cX g (up2 t k 31 z) f) s H1 locs1 → W p l e R s m args below meth c H1 locs1 cells slots Q (F0 m (pc + 3) ls rest)) : W p l e R s m args below meth c H locs cells slots Q (F0 m pc ls (.int (iV z) :: .ref (g.1 + k) :: rest)) := u_put X Y (kd_lt hk (by decide)) (cX_8 hk) fw_X8 tyX8 tyX8_ok nmX8 (T := TX8) rfl 31 (by decide) hl rfl rfl rfl rfl (Nat.le_of_ble_eq_true rfl) hdg (fun H1 locs1 Y1 => kk H1 locs1 (by rw [cX_up (up2 t k 31 z) f (fun i hi => by funext q; simp [up2, hi]) (fun _ _ => rfl) (by rw [cX_8 hk]; simp [up2])] at Y1; exact Y1))
theorem g_8_32 (X : uX p d R s m args c cc nL own) (Y : uY g 117 (cX g t f) s H locs) (hk : kd k = 8) (hl : Cond.fieldLink own idx RX8 "toldLoan" "[I" ∈ T0) (hdg : decode cc pc = .ok (.getfield idx, 3)) (kk : W p l e R s m args below meth c H locs cells slots Q (F0 m (pc + 3) ls (.ref (g.1 + 114) :: rest))) : W p l e R s m args below meth c H locs cells slots Q (F0 m pc ls (.ref (g.1 + k) :: rest)) := u_get X Y (kd_lt hk (by decide)) (cX_8 hk) fw_X8 (T := TX8) rfl 32 (by decide) hl rfl rfl hdg kk
theorem g_8_33 (X : uX p d R s m args c cc nL own) (Y : uY g 117 (cX g t f) s H locs) (hk : kd k = 8) (hl : Cond.fieldLink own idx RX8 "toldPaid" "[I" ∈ T0) (hdg : decode cc pc = .ok (.getfield idx, 3)) (kk : W p l e R s m args below meth c H locs cells slots Q (F0 m (pc + 3) ls (.ref (g.1 + 115) :: rest))) : W p l e R s m args below meth c H locs cells slots Q (F0 m pc ls (.ref (g.1 + k) :: rest)) := u_get X Y (kd_lt hk (by decide)) (cX_8 hk) fw_X8 (T := TX8) rfl 33 (by decide) hl rfl rfl hdg kk
theorem g_8_34 (X : uX p d R s m args c cc nL own) (Y : uY g 117 (cX g t f) s H locs) (hk : kd k = 8) (hl : Cond.fieldLink own idx RX8 "booked" "I" ∈ T0) (hdg : decode cc pc = .ok (.getfield idx, 3)) (kk : W p l e R s m args below meth c H locs cells slots Q (F0 m (pc + 3) ls (.int (iV (t k 34)) :: rest))) : W p l e R s m args below meth c H locs cells slots Q (F0 m pc ls (.ref (g.1 + k) :: rest)) := u_get X Y (kd_lt hk (by decide)) (cX_8 hk) fw_X8 (T := TX8) rfl 34 (by decide) hl rfl rfl hdg kk
theorem p_8_34 (X : uX p d R s m args c cc nL own) (Y : uY g 117 (cX g t f) s H locs) (hk : kd k = 8) (hl : Cond.fieldLink own idx RX8 "booked" "I" ∈ T0) {z : Int} (hdg : decode cc pc = .ok (.putfield idx, 3)) (kk : ∀ (H1 : Heap) (locs1 : List Loc), uY g 117 (cX g (up2 t k 34 z) f) s H1 locs1 → W p l e R s m args below meth c H1 locs1 cells slots Q (F0 m (pc + 3) ls rest)) : W p l e R s m args below meth c H locs cells slots Q (F0 m pc ls (.int (iV z) :: .ref (g.1 + k) :: rest)) := u_put X Y (kd_lt hk (by decide)) (cX_8 hk) fw_X8 tyX8 tyX8_ok nmX8 (T := TX8) rfl 34 (by decide) hl rfl rfl rfl rfl (Nat.le_of_ble_eq_true rfl) hdg (fun H1 locs1 Y1 => kk H1 locs1 (by rw [cX_up (up2 t k 34 z) f (fun i hi => by funext q; simp [up2, hi]) (fun _ _ => rfl) (by rw [cX_8 hk]; simp [up2])] at Y1; exact Y1))
theorem g_8_35 (X : uX p d R s m args c cc nL own) (Y : uY g 117 (cX g t f) s H locs) (hk : kd k = 8) (hl : Cond.fieldLink own idx RX8 "book" "[I" ∈ T0) (hdg : decode cc pc = .ok (.getfield idx, 3)) (kk : W p l e R s m args below meth c H locs cells slots Q (F0 m (pc + 3) ls (.ref (g.1 + 116) :: rest))) : W p l e R s m args below meth c H locs cells slots Q (F0 m pc ls (.ref (g.1 + k) :: rest)) := u_get X Y (kd_lt hk (by decide)) (cX_8 hk) fw_X8 (T := TX8) rfl 35 (by decide) hl rfl rfl hdg kk
theorem rv_8 (Y : uY g 117 (cX g t f) s H locs) (hk : kd k = 8) : ∃ cell : Cell, H[g.1 + k]? = some cell ∧ cell.vm.isStatics = false ∧ s.vm.findClass RX8 = some cell.cls := u_recv Y (kd_lt hk (by decide)) (cX_8 hk) (T := TX8) rfl
theorem g_ild (X : uX p d R s m args c cc nL own) (Y : uY g 117 (cX g t f) s H locs) (hk : kd k = 10) {z : Int} (h0 : 0 ≤ z) (h1 : z < (al k : Nat)) (hdg : decode cc pc = .ok (.iaload, 1)) (kk : W p l e R s m args below meth c H locs cells slots Q (F0 m (pc + 1) ls (.int (iV (f k z)) :: rest))) : W p l e R s m args below meth c H locs cells slots Q (F0 m pc ls (.int (iV z) :: .ref (g.1 + k) :: rest)) := u_iald X Y (kd_lt hk (by decide)) (cX_10 hk) h0 h1 (al_le k) hdg kk
theorem g_zld (X : uX p d R s m args c cc nL own) (Y : uY g 117 (cX g t f) s H locs) (hk : kd k = 11) {z : Int} (h0 : 0 ≤ z) (h1 : z < (al k : Nat)) (hdg : decode cc pc = .ok (.baload, 1)) (kk : W p l e R s m args below meth c H locs cells slots Q (F0 m (pc + 1) ls (.int (iV (f k z)) :: rest))) : W p l e R s m args below meth c H locs cells slots Q (F0 m pc ls (.int (iV z) :: .ref (g.1 + k) :: rest)) := u_zald X Y (kd_lt hk (by decide)) (cX_11 hk) h0 h1 (al_le k) hdg kk
theorem g_ilen (X : uX p d R s m args c cc nL own) (Y : uY g 117 (cX g t f) s H locs) (hk : kd k = 10) (hdg : decode cc pc = .ok (.arraylength, 1)) (kk : W p l e R s m args below meth c H locs cells slots Q (F0 m (pc + 1) ls (.int (iV (al k : Nat)) :: rest))) : W p l e R s m args below meth c H locs cells slots Q (F0 m pc ls (.ref (g.1 + k) :: rest)) := u_ilen X Y (kd_lt hk (by decide)) (cX_10 hk) hdg kk
theorem g_alen (X : uX p d R s m args c cc nL own) (Y : uY g 117 (cX g t f) s H locs) (hk : kd k = 12) (hdg : decode cc pc = .ok (.arraylength, 1)) (kk : W p l e R s m args below meth c H locs cells slots Q (F0 m (pc + 1) ls (.int (iV 20) :: rest))) : W p l e R s m args below meth c H locs cells slots Q (F0 m pc ls (.ref (g.1 + k) :: rest)) := u_alen X Y (kd_lt hk (by decide)) (cX_12 hk) hdg kk
theorem g_ald (X : uX p d R s m args c cc nL own) (Y : uY g 117 (cX g t f) s H locs) (hk : kd k = 12) {z : Int} (h0 : 0 ≤ z) (h1 : z < 20) (hdg : decode cc pc = .ok (.aaload, 1)) (kk : W p l e R s m args below meth c H locs cells slots Q (F0 m (pc + 1) ls (.ref (g.1 + (23 + 3 * z.toNat)) :: rest))) : W p l e R s m args below meth c H locs cells slots Q (F0 m pc ls (.int (iV z) :: .ref (g.1 + k) :: rest)) := u_aald X Y (kd_lt hk (by decide)) (cX_12 hk) h0 h1 (by decide) rfl hdg kk
theorem p_ist (X : uX p d R s m args c cc nL own) (Y : uY g 117 (cX g t f) s H locs) (hk : kd k = 10) {z x : Int} (h0 : 0 ≤ z) (h1 : z < (al k : Nat)) (hdg : decode cc pc = .ok (.iastore, 1)) (kk : ∀ (H1 : Heap) (locs1 : List Loc), uY g 117 (cX g t (upA f k z x)) s H1 locs1 → W p l e R s m args below meth c H1 locs1 cells slots Q (F0 m (pc + 1) ls rest)) : W p l e R s m args below meth c H locs cells slots Q (F0 m pc ls (.int (iV x) :: .int (iV z) :: .ref (g.1 + k) :: rest)) := u_iast X Y (kd_lt hk (by decide)) (cX_10 hk) h0 h1 (al_le k) hdg (fun H1 locs1 Y1 => kk H1 locs1 (by rw [cX_up t (upA f k z x) (fun _ _ => rfl) (fun i hi => by funext q; simp [upA, hi]) (by rw [cX_10 hk]; congr 1; funext q; simp [upA])] at Y1; exact Y1))
theorem p_zst (X : uX p d R s m args c cc nL own) (Y : uY g 117 (cX g t f) s H locs) (hk : kd k = 11) {z x : Int} (hx : x = 0 ∨ x = 1) (h0 : 0 ≤ z) (h1 : z < (al k : Nat)) (hdg : decode cc pc = .ok (.bastore, 1)) (kk : ∀ (H1 : Heap) (locs1 : List Loc), uY g 117 (cX g t (upA f k z x)) s H1 locs1 → W p l e R s m args below meth c H1 locs1 cells slots Q (F0 m (pc + 1) ls rest)) : W p l e R s m args below meth c H locs cells slots Q (F0 m pc ls (.int (iV x) :: .int (iV z) :: .ref (g.1 + k) :: rest)) := u_zast X Y (kd_lt hk (by decide)) (cX_11 hk) (by rcases hx with rfl | rfl <;> rfl) h0 h1 (al_le k) hdg (fun H1 locs1 Y1 => kk H1 locs1 (by rw [cX_up t (upA f k z x) (fun _ _ => rfl) (fun i hi => by funext q; simp [upA, hi]) (by rw [cX_11 hk]; congr 1; funext q; simp [upA])] at Y1; exact Y1))
end CROWS
end
section
theorem mk_X7_init : uK yX7_init RX7 cX7_init 1 none 0 := ⟨⟨wm_61, wm_76⟩, rfl, by decide +kernel, by decide⟩
theorem mi_X7_init : Cond.instanceMethod yX7_init ∈ T0 := wm_75
theorem mk_X5_init : uK yX5_init RX5 cX5_init 3 none 2 := ⟨⟨wm_62, wm_84⟩, rfl, by decide +kernel, by decide⟩
theorem mi_X5_init : Cond.instanceMethod yX5_init ∈ T0 := wm_83
theorem mk_X3_init : uK yX3_init RX3 cX3_init 2 none 1 := ⟨⟨wm_64, wm_107⟩, rfl, by decide +kernel, by decide⟩
theorem mi_X3_init : Cond.instanceMethod yX3_init ∈ T0 := wm_106
theorem mk_X6_init : uK yX6_init RX6 cX6_init 1 none 0 := ⟨⟨wm_65, wm_113⟩, rfl, by decide +kernel, by decide⟩
theorem mi_X6_init : Cond.instanceMethod yX6_init ∈ T0 := wm_112
theorem mk_X4_init : uK yX4_init RX4 cX4_init 1 none 0 := ⟨⟨wm_66, wm_157⟩, rfl, by decide +kernel, by decide⟩
theorem mi_X4_init : Cond.instanceMethod yX4_init ∈ T0 := wm_156
theorem mk_X1_init : uK yX1_init RX1 cX1_init 2 none 0 := ⟨⟨wm_67, wm_189⟩, rfl, by decide +kernel, by decide⟩
theorem mi_X1_init : Cond.instanceMethod yX1_init ∈ T0 := wm_188
theorem mk_X0_init : uK yX0_init RX0 cX0_init 1 none 0 := ⟨⟨wm_68, wm_208⟩, rfl, by decide +kernel, by decide⟩
theorem mi_X0_init : Cond.instanceMethod yX0_init ∈ T0 := wm_207
theorem mk_X2_init : uK yX2_init RX2 cX2_init 2 none 1 := ⟨⟨wm_69, wm_229⟩, rfl, by decide +kernel, by decide⟩
theorem mi_X2_init : Cond.instanceMethod yX2_init ∈ T0 := wm_228
theorem mk_X7_feed : uK yX7_feed RX7 cX7_feed 2 (some .int) 1 := ⟨⟨wm_61, wm_296⟩, rfl, by decide +kernel, by decide⟩
theorem mi_X7_feed : Cond.instanceMethod yX7_feed ∈ T0 ∧ Cond.selects RX7 yX7_feed yX7_feed ∈ T0 := ⟨wm_294, wm_295⟩
theorem mk_X5_isFull : uK yX5_isFull RX5 cX5_isFull 1 (some .boolean) 0 := ⟨⟨wm_62, wm_301⟩, rfl, by decide +kernel, by decide⟩
theorem mi_X5_isFull : Cond.instanceMethod yX5_isFull ∈ T0 ∧ Cond.selects RX5 yX5_isFull yX5_isFull ∈ T0 := ⟨wm_299, wm_300⟩
theorem mk_X5_add : uK yX5_add RX5 cX5_add 2 none 1 := ⟨⟨wm_62, wm_306⟩, rfl, by decide +kernel, by decide⟩
theorem mi_X5_add : Cond.instanceMethod yX5_add ∈ T0 ∧ Cond.selects RX5 yX5_add yX5_add ∈ T0 := ⟨wm_304, wm_305⟩
theorem mk_X5_open : uK yX5_open RX5 cX5_open 1 (some .int) 0 := ⟨⟨wm_62, wm_310⟩, rfl, by decide +kernel, by decide⟩
theorem mi_X5_open : Cond.instanceMethod yX5_open ∈ T0 ∧ Cond.selects RX5 yX5_open yX5_open ∈ T0 := ⟨wm_308, wm_309⟩
theorem mk_X5_set : uK yX5_set RX5 cX5_set 5 none 3 := ⟨⟨wm_62, wm_315⟩, rfl, by decide +kernel, by decide⟩
theorem mi_X5_set : Cond.instanceMethod yX5_set ∈ T0 ∧ Cond.selects RX5 yX5_set yX5_set ∈ T0 := ⟨wm_313, wm_314⟩
theorem mk_X5_cellOf : uK yX5_cellOf RX5 cX5_cellOf 4 (some .int) 2 := ⟨⟨wm_62, wm_319⟩, rfl, by decide +kernel, by decide⟩
theorem mi_X5_cellOf : Cond.instanceMethod yX5_cellOf ∈ T0 ∧ Cond.selects RX5 yX5_cellOf yX5_cellOf ∈ T0 := ⟨wm_318, wm_0⟩
theorem mk_X5_rows : uK yX5_rows RX5 cX5_rows 1 (some .int) 0 := ⟨⟨wm_62, wm_323⟩, rfl, by decide +kernel, by decide⟩
theorem mi_X5_rows : Cond.instanceMethod yX5_rows ∈ T0 ∧ Cond.selects RX5 yX5_rows yX5_rows ∈ T0 := ⟨wm_321, wm_322⟩
theorem mk_X7_voyage : uK yX7_voyage RX7 cX7_voyage 2 (some .int) 0 := ⟨⟨wm_61, wm_327⟩, rfl, by decide +kernel, by decide⟩
theorem mi_X7_voyage : Cond.instanceMethod yX7_voyage ∈ T0 ∧ Cond.selects RX7 yX7_voyage yX7_voyage ∈ T0 := ⟨wm_325, wm_326⟩
theorem mk_X3_readText : uK yX3_readText RX3 cX3_readText 2 (some .int) 0 := ⟨⟨wm_64, wm_331⟩, rfl, by decide +kernel, by decide⟩
theorem mi_X3_readText : Cond.instanceMethod yX3_readText ∈ T0 ∧ Cond.selects RX3 yX3_readText yX3_readText ∈ T0 := ⟨wm_329, wm_330⟩
theorem mk_X6_clear : uK yX6_clear RX6 cX6_clear 1 none 0 := ⟨⟨wm_65, wm_335⟩, rfl, by decide +kernel, by decide⟩
theorem mi_X6_clear : Cond.instanceMethod yX6_clear ∈ T0 ∧ Cond.selects RX6 yX6_clear yX6_clear ∈ T0 := ⟨wm_333, wm_334⟩
theorem mk_X5_clear : uK yX5_clear RX5 cX5_clear 1 none 0 := ⟨⟨wm_62, wm_339⟩, rfl, by decide +kernel, by decide⟩
theorem mi_X5_clear : Cond.instanceMethod yX5_clear ∈ T0 ∧ Cond.selects RX5 yX5_clear yX5_clear ∈ T0 := ⟨wm_337, wm_338⟩
theorem mk_X3_skipBlanks : uK yX3_skipBlanks RX3 cX3_skipBlanks 2 none 0 := ⟨⟨wm_64, wm_343⟩, rfl, by decide +kernel, by decide⟩
theorem mi_X3_skipBlanks : Cond.instanceMethod yX3_skipBlanks ∈ T0 ∧ Cond.selects RX3 yX3_skipBlanks yX3_skipBlanks ∈ T0 := ⟨wm_342, wm_1⟩
theorem mk_X3_letter : uK yX3_letter RX3 cX3_letter 1 (some .int) 0 := ⟨⟨wm_64, wm_347⟩, rfl, by decide +kernel, by decide⟩
theorem mi_X3_letter : Cond.instanceMethod yX3_letter ∈ T0 ∧ Cond.selects RX3 yX3_letter yX3_letter ∈ T0 := ⟨wm_346, wm_2⟩
theorem mk_X5_get : uK yX5_get RX5 cX5_get 4 (some .int) 2 := ⟨⟨wm_62, wm_351⟩, rfl, by decide +kernel, by decide⟩
theorem mi_X5_get : Cond.instanceMethod yX5_get ∈ T0 ∧ Cond.selects RX5 yX5_get yX5_get ∈ T0 := ⟨wm_349, wm_350⟩
theorem mk_X3_readClause : uK yX3_readClause RX3 cX3_readClause 5 none 0 := ⟨⟨wm_64, wm_356⟩, rfl, by decide +kernel, by decide⟩
theorem mi_X3_readClause : Cond.instanceMethod yX3_readClause ∈ T0 ∧ Cond.selects RX3 yX3_readClause yX3_readClause ∈ T0 := ⟨wm_355, wm_3⟩
theorem mk_X3_wordOf : uK yX3_wordOf RX3 cX3_wordOf 1 (some .int) 1 := ⟨⟨wm_64, wm_359⟩, rfl, by decide +kernel, by decide⟩
theorem mi_X3_wordOf : Cond.static yX3_wordOf ∈ T0 := wm_358
theorem mk_X3_refuse : uK yX3_refuse RX3 cX3_refuse 3 none 2 := ⟨⟨wm_64, wm_363⟩, rfl, by decide +kernel, by decide⟩
theorem mi_X3_refuse : Cond.instanceMethod yX3_refuse ∈ T0 ∧ Cond.selects RX3 yX3_refuse yX3_refuse ∈ T0 := ⟨wm_362, wm_4⟩
theorem mk_X3_clausesOf : uK yX3_clausesOf RX3 cX3_clausesOf 2 (some (.object "BottomryLoans$Table")) 1 := ⟨⟨wm_64, wm_367⟩, rfl, by decide +kernel, by decide⟩
theorem mi_X3_clausesOf : Cond.instanceMethod yX3_clausesOf ∈ T0 ∧ Cond.selects RX3 yX3_clausesOf yX3_clausesOf ∈ T0 := ⟨wm_366, wm_5⟩
theorem mk_X5_width : uK yX5_width RX5 cX5_width 1 (some .int) 0 := ⟨⟨wm_62, wm_373⟩, rfl, by decide +kernel, by decide⟩
theorem mi_X5_width : Cond.instanceMethod yX5_width ∈ T0 ∧ Cond.selects RX5 yX5_width yX5_width ∈ T0 := ⟨wm_371, wm_372⟩
theorem mk_X3_readNumber : uK yX3_readNumber RX3 cX3_readNumber 5 (some .int) 1 := ⟨⟨wm_64, wm_377⟩, rfl, by decide +kernel, by decide⟩
theorem mi_X3_readNumber : Cond.instanceMethod yX3_readNumber ∈ T0 ∧ Cond.selects RX3 yX3_readNumber yX3_readNumber ∈ T0 := ⟨wm_376, wm_6⟩
theorem mk_X3_isWithin : uK yX3_isWithin RX3 cX3_isWithin 2 (some .boolean) 2 := ⟨⟨wm_64, wm_383⟩, rfl, by decide +kernel, by decide⟩
theorem mi_X3_isWithin : Cond.static yX3_isWithin ∈ T0 := wm_382
theorem mk_X3_readEnd : uK yX3_readEnd RX3 cX3_readEnd 1 none 0 := ⟨⟨wm_64, wm_392⟩, rfl, by decide +kernel, by decide⟩
theorem mi_X3_readEnd : Cond.instanceMethod yX3_readEnd ∈ T0 ∧ Cond.selects RX3 yX3_readEnd yX3_readEnd ∈ T0 := ⟨wm_391, wm_7⟩
theorem mk_X3_placeOfFault : uK yX3_placeOfFault RX3 cX3_placeOfFault 1 (some .int) 0 := ⟨⟨wm_64, wm_396⟩, rfl, by decide +kernel, by decide⟩
theorem mi_X3_placeOfFault : Cond.instanceMethod yX3_placeOfFault ∈ T0 ∧ Cond.selects RX3 yX3_placeOfFault yX3_placeOfFault ∈ T0 := ⟨wm_394, wm_395⟩
theorem mk_X3_whatWasRead : uK yX3_whatWasRead RX3 cX3_whatWasRead 1 (some (.object "BottomryLoans$Voyage")) 0 := ⟨⟨wm_64, wm_401⟩, rfl, by decide +kernel, by decide⟩
theorem mi_X3_whatWasRead : Cond.instanceMethod yX3_whatWasRead ∈ T0 ∧ Cond.selects RX3 yX3_whatWasRead yX3_whatWasRead ∈ T0 := ⟨wm_399, wm_400⟩
theorem mk_X6_become : uK yX6_become RX6 cX6_become 2 none 1 := ⟨⟨wm_65, wm_405⟩, rfl, by decide +kernel, by decide⟩
theorem mi_X6_become : Cond.instanceMethod yX6_become ∈ T0 ∧ Cond.selects RX6 yX6_become yX6_become ∈ T0 := ⟨wm_403, wm_404⟩
theorem mk_X5_become : uK yX5_become RX5 cX5_become 2 none 1 := ⟨⟨wm_62, wm_409⟩, rfl, by decide +kernel, by decide⟩
theorem mi_X5_become : Cond.instanceMethod yX5_become ∈ T0 ∧ Cond.selects RX5 yX5_become yX5_become ∈ T0 := ⟨wm_407, wm_408⟩
theorem mk_X4_begin : uK yX4_begin RX4 cX4_begin 2 none 1 := ⟨⟨wm_66, wm_417⟩, rfl, by decide +kernel, by decide⟩
theorem mi_X4_begin : Cond.instanceMethod yX4_begin ∈ T0 ∧ Cond.selects RX4 yX4_begin yX4_begin ∈ T0 := ⟨wm_415, wm_416⟩
theorem mk_X1_clear : uK yX1_clear RX1 cX1_clear 1 none 0 := ⟨⟨wm_67, wm_423⟩, rfl, by decide +kernel, by decide⟩
theorem mi_X1_clear : Cond.instanceMethod yX1_clear ∈ T0 ∧ Cond.selects RX1 yX1_clear yX1_clear ∈ T0 := ⟨wm_421, wm_422⟩
theorem mk_X2_forget : uK yX2_forget RX2 cX2_forget 1 none 0 := ⟨⟨wm_69, wm_427⟩, rfl, by decide +kernel, by decide⟩
theorem mi_X2_forget : Cond.instanceMethod yX2_forget ∈ T0 ∧ Cond.selects RX2 yX2_forget yX2_forget ∈ T0 := ⟨wm_425, wm_426⟩
theorem mk_X7_fault : uK yX7_fault RX7 cX7_fault 1 (some .int) 0 := ⟨⟨wm_61, wm_431⟩, rfl, by decide +kernel, by decide⟩
theorem mi_X7_fault : Cond.instanceMethod yX7_fault ∈ T0 ∧ Cond.selects RX7 yX7_fault yX7_fault ∈ T0 := ⟨wm_429, wm_430⟩
theorem mk_X7_told : uK yX7_told RX7 cX7_told 2 (some .int) 1 := ⟨⟨wm_61, wm_435⟩, rfl, by decide +kernel, by decide⟩
theorem mi_X7_told : Cond.instanceMethod yX7_told ∈ T0 ∧ Cond.selects RX7 yX7_told yX7_told ∈ T0 := ⟨wm_433, wm_434⟩
theorem mk_X7_whereSheIs : uK yX7_whereSheIs RX7 cX7_whereSheIs 1 (some .int) 0 := ⟨⟨wm_61, wm_440⟩, rfl, by decide +kernel, by decide⟩
theorem mi_X7_whereSheIs : Cond.instanceMethod yX7_whereSheIs ∈ T0 ∧ Cond.selects RX7 yX7_whereSheIs yX7_whereSheIs ∈ T0 := ⟨wm_439, wm_8⟩
theorem mk_X5_has : uK yX5_has RX5 cX5_has 2 (some .boolean) 1 := ⟨⟨wm_62, wm_444⟩, rfl, by decide +kernel, by decide⟩
theorem mi_X5_has : Cond.instanceMethod yX5_has ∈ T0 ∧ Cond.selects RX5 yX5_has yX5_has ∈ T0 := ⟨wm_442, wm_443⟩
theorem mk_X4_dueFrom : uK yX4_dueFrom RX4 cX4_dueFrom 5 (some .int) 2 := ⟨⟨wm_66, wm_448⟩, rfl, by decide +kernel, by decide⟩
theorem mi_X4_dueFrom : Cond.instanceMethod yX4_dueFrom ∈ T0 ∧ Cond.selects RX4 yX4_dueFrom yX4_dueFrom ∈ T0 := ⟨wm_446, wm_447⟩
theorem mk_X7_cannotTry : uK yX7_cannotTry RX7 cX7_cannotTry 1 (some .boolean) 0 := ⟨⟨wm_61, wm_453⟩, rfl, by decide +kernel, by decide⟩
theorem mi_X7_cannotTry : Cond.instanceMethod yX7_cannotTry ∈ T0 ∧ Cond.selects RX7 yX7_cannotTry yX7_cannotTry ∈ T0 := ⟨wm_452, wm_9⟩
theorem mk_X7_leftBesidesPurse : uK yX7_leftBesidesPurse RX7 cX7_leftBesidesPurse 1 (some .int) 0 := ⟨⟨wm_61, wm_457⟩, rfl, by decide +kernel, by decide⟩
theorem mi_X7_leftBesidesPurse : Cond.instanceMethod yX7_leftBesidesPurse ∈ T0 ∧ Cond.selects RX7 yX7_leftBesidesPurse yX7_leftBesidesPurse ∈ T0 := ⟨wm_456, wm_10⟩
theorem mk_X7_shipMoney : uK yX7_shipMoney RX7 cX7_shipMoney 2 (some .int) 1 := ⟨⟨wm_61, wm_461⟩, rfl, by decide +kernel, by decide⟩
theorem mi_X7_shipMoney : Cond.instanceMethod yX7_shipMoney ∈ T0 ∧ Cond.selects RX7 yX7_shipMoney yX7_shipMoney ∈ T0 := ⟨wm_460, wm_11⟩
theorem mk_X1_acts : uK yX1_acts RX1 cX1_acts 1 (some .int) 0 := ⟨⟨wm_67, wm_466⟩, rfl, by decide +kernel, by decide⟩
theorem mi_X1_acts : Cond.instanceMethod yX1_acts ∈ T0 ∧ Cond.selects RX1 yX1_acts yX1_acts ∈ T0 := ⟨wm_464, wm_465⟩
theorem mk_X7_leg : uK yX7_leg RX7 cX7_leg 3 (some .int) 2 := ⟨⟨wm_61, wm_470⟩, rfl, by decide +kernel, by decide⟩
theorem mi_X7_leg : Cond.instanceMethod yX7_leg ∈ T0 ∧ Cond.selects RX7 yX7_leg yX7_leg ∈ T0 := ⟨wm_468, wm_469⟩
theorem mk_X6_oddsOf : uK yX6_oddsOf RX6 cX6_oddsOf 4 (some .int) 2 := ⟨⟨wm_65, wm_475⟩, rfl, by decide +kernel, by decide⟩
theorem mi_X6_oddsOf : Cond.instanceMethod yX6_oddsOf ∈ T0 ∧ Cond.selects RX6 yX6_oddsOf yX6_oddsOf ∈ T0 := ⟨wm_473, wm_474⟩
theorem mk_X7_lender : uK yX7_lender RX7 cX7_lender 3 (some .int) 2 := ⟨⟨wm_61, wm_481⟩, rfl, by decide +kernel, by decide⟩
theorem mi_X7_lender : Cond.instanceMethod yX7_lender ∈ T0 ∧ Cond.selects RX7 yX7_lender yX7_lender ∈ T0 := ⟨wm_479, wm_480⟩
theorem mk_X7_hasYet : uK yX7_hasYet RX7 cX7_hasYet 2 (some .int) 1 := ⟨⟨wm_61, wm_485⟩, rfl, by decide +kernel, by decide⟩
theorem mi_X7_hasYet : Cond.instanceMethod yX7_hasYet ∈ T0 ∧ Cond.selects RX7 yX7_hasYet yX7_hasYet ∈ T0 := ⟨wm_484, wm_12⟩
theorem mk_X4_lentBy : uK yX4_lentBy RX4 cX4_lentBy 4 (some .int) 1 := ⟨⟨wm_66, wm_489⟩, rfl, by decide +kernel, by decide⟩
theorem mi_X4_lentBy : Cond.instanceMethod yX4_lentBy ∈ T0 ∧ Cond.selects RX4 yX4_lentBy yX4_lentBy ∈ T0 := ⟨wm_487, wm_488⟩
theorem mk_X7_loan : uK yX7_loan RX7 cX7_loan 3 (some .int) 2 := ⟨⟨wm_61, wm_493⟩, rfl, by decide +kernel, by decide⟩
theorem mi_X7_loan : Cond.instanceMethod yX7_loan ∈ T0 ∧ Cond.selects RX7 yX7_loan yX7_loan ∈ T0 := ⟨wm_491, wm_492⟩
theorem mk_X4_rankOf : uK yX4_rankOf RX4 cX4_rankOf 4 (some .int) 1 := ⟨⟨wm_66, wm_497⟩, rfl, by decide +kernel, by decide⟩
theorem mi_X4_rankOf : Cond.instanceMethod yX4_rankOf ∈ T0 ∧ Cond.selects RX4 yX4_rankOf yX4_rankOf ∈ T0 := ⟨wm_495, wm_496⟩
theorem mk_X4_countFrom : uK yX4_countFrom RX4 cX4_countFrom 5 (some .int) 2 := ⟨⟨wm_66, wm_501⟩, rfl, by decide +kernel, by decide⟩
theorem mi_X4_countFrom : Cond.instanceMethod yX4_countFrom ∈ T0 ∧ Cond.selects RX4 yX4_countFrom yX4_countFrom ∈ T0 := ⟨wm_500, wm_13⟩
theorem mk_X7_borrow : uK yX7_borrow RX7 cX7_borrow 5 (some .int) 3 := ⟨⟨wm_61, wm_505⟩, rfl, by decide +kernel, by decide⟩
theorem mi_X7_borrow : Cond.instanceMethod yX7_borrow ∈ T0 ∧ Cond.selects RX7 yX7_borrow yX7_borrow ∈ T0 := ⟨wm_503, wm_504⟩
theorem mk_X7_isInPort : uK yX7_isInPort RX7 cX7_isInPort 1 (some .boolean) 0 := ⟨⟨wm_61, wm_509⟩, rfl, by decide +kernel, by decide⟩
theorem mi_X7_isInPort : Cond.instanceMethod yX7_isInPort ∈ T0 ∧ Cond.selects RX7 yX7_isInPort yX7_isInPort ∈ T0 := ⟨wm_508, wm_14⟩
theorem mk_X7_remember : uK yX7_remember RX7 cX7_remember 1 none 0 := ⟨⟨wm_61, wm_514⟩, rfl, by decide +kernel, by decide⟩
theorem mi_X7_remember : Cond.instanceMethod yX7_remember ∈ T0 ∧ Cond.selects RX7 yX7_remember yX7_remember ∈ T0 := ⟨wm_513, wm_15⟩
theorem mk_X1_put : uK yX1_put RX1 cX1_put 3 none 1 := ⟨⟨wm_67, wm_518⟩, rfl, by decide +kernel, by decide⟩
theorem mi_X1_put : Cond.instanceMethod yX1_put ∈ T0 ∧ Cond.selects RX1 yX1_put yX1_put ∈ T0 := ⟨wm_516, wm_517⟩
theorem mk_X1_slotOf : uK yX1_slotOf RX1 cX1_slotOf 2 (some (.object "BottomryLoans$She")) 1 := ⟨⟨wm_67, wm_522⟩, rfl, by decide +kernel, by decide⟩
theorem mi_X1_slotOf : Cond.instanceMethod yX1_slotOf ∈ T0 ∧ Cond.selects RX1 yX1_slotOf yX1_slotOf ∈ T0 := ⟨wm_521, wm_16⟩
theorem mk_X4_become : uK yX4_become RX4 cX4_become 2 none 1 := ⟨⟨wm_66, wm_526⟩, rfl, by decide +kernel, by decide⟩
theorem mi_X4_become : Cond.instanceMethod yX4_become ∈ T0 ∧ Cond.selects RX4 yX4_become yX4_become ∈ T0 := ⟨wm_524, wm_525⟩
theorem mk_X6_dueOf : uK yX6_dueOf RX6 cX6_dueOf 3 (some .int) 2 := ⟨⟨wm_65, wm_534⟩, rfl, by decide +kernel, by decide⟩
theorem mi_X6_dueOf : Cond.instanceMethod yX6_dueOf ∈ T0 ∧ Cond.selects RX6 yX6_dueOf yX6_dueOf ∈ T0 := ⟨wm_532, wm_533⟩
theorem mk_X7_repair : uK yX7_repair RX7 cX7_repair 3 (some .int) 1 := ⟨⟨wm_61, wm_538⟩, rfl, by decide +kernel, by decide⟩
theorem mi_X7_repair : Cond.instanceMethod yX7_repair ∈ T0 ∧ Cond.selects RX7 yX7_repair yX7_repair ∈ T0 := ⟨wm_536, wm_537⟩
theorem mk_X7_costHere : uK yX7_costHere RX7 cX7_costHere 1 (some .int) 0 := ⟨⟨wm_61, wm_542⟩, rfl, by decide +kernel, by decide⟩
theorem mi_X7_costHere : Cond.instanceMethod yX7_costHere ∈ T0 ∧ Cond.selects RX7 yX7_costHere yX7_costHere ∈ T0 := ⟨wm_541, wm_17⟩
theorem mk_X7_sail : uK yX7_sail RX7 cX7_sail 2 (some .int) 1 := ⟨⟨wm_61, wm_546⟩, rfl, by decide +kernel, by decide⟩
theorem mi_X7_sail : Cond.instanceMethod yX7_sail ∈ T0 ∧ Cond.selects RX7 yX7_sail yX7_sail ∈ T0 := ⟨wm_544, wm_545⟩
theorem mk_X4_sailOn : uK yX4_sailOn RX4 cX4_sailOn 2 none 1 := ⟨⟨wm_66, wm_550⟩, rfl, by decide +kernel, by decide⟩
theorem mi_X4_sailOn : Cond.instanceMethod yX4_sailOn ∈ T0 ∧ Cond.selects RX4 yX4_sailOn yX4_sailOn ∈ T0 := ⟨wm_548, wm_549⟩
theorem mk_X7_drift : uK yX7_drift RX7 cX7_drift 4 (some .int) 1 := ⟨⟨wm_61, wm_555⟩, rfl, by decide +kernel, by decide⟩
theorem mi_X7_drift : Cond.instanceMethod yX7_drift ∈ T0 ∧ Cond.selects RX7 yX7_drift yX7_drift ∈ T0 := ⟨wm_553, wm_554⟩
theorem mk_X7_drawOfHundred : uK yX7_drawOfHundred RX7 cX7_drawOfHundred 3 (some .int) 0 := ⟨⟨wm_61, wm_559⟩, rfl, by decide +kernel, by decide⟩
theorem mi_X7_drawOfHundred : Cond.instanceMethod yX7_drawOfHundred ∈ T0 ∧ Cond.selects RX7 yX7_drawOfHundred yX7_drawOfHundred ∈ T0 := ⟨wm_558, wm_18⟩
theorem mk_X7_undo : uK yX7_undo RX7 cX7_undo 1 (some .int) 0 := ⟨⟨wm_61, wm_567⟩, rfl, by decide +kernel, by decide⟩
theorem mi_X7_undo : Cond.instanceMethod yX7_undo ∈ T0 ∧ Cond.selects RX7 yX7_undo yX7_undo ∈ T0 := ⟨wm_565, wm_566⟩
theorem mk_X1_takeBack : uK yX1_takeBack RX1 cX1_takeBack 4 none 1 := ⟨⟨wm_67, wm_571⟩, rfl, by decide +kernel, by decide⟩
theorem mi_X1_takeBack : Cond.instanceMethod yX1_takeBack ∈ T0 ∧ Cond.selects RX1 yX1_takeBack yX1_takeBack ∈ T0 := ⟨wm_569, wm_570⟩
theorem mk_X7_comesHome : uK yX7_comesHome RX7 cX7_comesHome 1 (some .int) 0 := ⟨⟨wm_61, wm_575⟩, rfl, by decide +kernel, by decide⟩
theorem mi_X7_comesHome : Cond.instanceMethod yX7_comesHome ∈ T0 ∧ Cond.selects RX7 yX7_comesHome yX7_comesHome ∈ T0 := ⟨wm_573, wm_574⟩
theorem mk_X6_chanceThrough : uK yX6_chanceThrough RX6 cX6_chanceThrough 7 (some .int) 3 := ⟨⟨wm_65, wm_579⟩, rfl, by decide +kernel, by decide⟩
theorem mi_X6_chanceThrough : Cond.instanceMethod yX6_chanceThrough ∈ T0 ∧ Cond.selects RX6 yX6_chanceThrough yX6_chanceThrough ∈ T0 := ⟨wm_577, wm_578⟩
theorem mk_X6_comeThrough : uK yX6_comeThrough RX6 cX6_comeThrough 4 (some .int) 3 := ⟨⟨wm_65, wm_584⟩, rfl, by decide +kernel, by decide⟩
theorem mi_X6_comeThrough : Cond.instanceMethod yX6_comeThrough ∈ T0 ∧ Cond.selects RX6 yX6_comeThrough yX6_comeThrough ∈ T0 := ⟨wm_582, wm_583⟩
theorem mk_X7_rate : uK yX7_rate RX7 cX7_rate 1 (some .int) 0 := ⟨⟨wm_61, wm_590⟩, rfl, by decide +kernel, by decide⟩
theorem mi_X7_rate : Cond.instanceMethod yX7_rate ∈ T0 ∧ Cond.selects RX7 yX7_rate yX7_rate ∈ T0 := ⟨wm_588, wm_589⟩
theorem mk_X7_rateFor : uK yX7_rateFor RX7 cX7_rateFor 2 (some .int) 1 := ⟨⟨wm_61, wm_594⟩, rfl, by decide +kernel, by decide⟩
theorem mi_X7_rateFor : Cond.static yX7_rateFor ∈ T0 := wm_593
theorem mk_X7_willing : uK yX7_willing RX7 cX7_willing 4 (some .int) 0 := ⟨⟨wm_61, wm_599⟩, rfl, by decide +kernel, by decide⟩
theorem mi_X7_willing : Cond.instanceMethod yX7_willing ∈ T0 ∧ Cond.selects RX7 yX7_willing yX7_willing ∈ T0 := ⟨wm_597, wm_598⟩
theorem mk_X7_paid : uK yX7_paid RX7 cX7_paid 2 (some .int) 1 := ⟨⟨wm_61, wm_603⟩, rfl, by decide +kernel, by decide⟩
theorem mi_X7_paid : Cond.instanceMethod yX7_paid ∈ T0 ∧ Cond.selects RX7 yX7_paid yX7_paid ∈ T0 := ⟨wm_601, wm_602⟩
theorem mk_X7_paidNow : uK yX7_paidNow RX7 cX7_paidNow 3 (some .int) 1 := ⟨⟨wm_61, wm_607⟩, rfl, by decide +kernel, by decide⟩
theorem mi_X7_paidNow : Cond.instanceMethod yX7_paidNow ∈ T0 ∧ Cond.selects RX7 yX7_paidNow yX7_paidNow ∈ T0 := ⟨wm_606, wm_19⟩
theorem mk_X4_paidOf : uK yX4_paidOf RX4 cX4_paidOf 7 (some .int) 3 := ⟨⟨wm_66, wm_611⟩, rfl, by decide +kernel, by decide⟩
theorem mi_X4_paidOf : Cond.instanceMethod yX4_paidOf ∈ T0 ∧ Cond.selects RX4 yX4_paidOf yX4_paidOf ∈ T0 := ⟨wm_609, wm_610⟩
theorem mk_X7_hurt : uK yX7_hurt RX7 cX7_hurt 9 (some .int) 3 := ⟨⟨wm_61, wm_617⟩, rfl, by decide +kernel, by decide⟩
theorem mi_X7_hurt : Cond.instanceMethod yX7_hurt ∈ T0 ∧ Cond.selects RX7 yX7_hurt yX7_hurt ∈ T0 := ⟨wm_615, wm_616⟩
theorem mk_X7_share : uK yX7_share RX7 cX7_share 3 (some .int) 2 := ⟨⟨wm_61, wm_621⟩, rfl, by decide +kernel, by decide⟩
theorem mi_X7_share : Cond.instanceMethod yX7_share ∈ T0 ∧ Cond.selects RX7 yX7_share yX7_share ∈ T0 := ⟨wm_619, wm_620⟩
theorem mk_X7_plan : uK yX7_plan RX7 cX7_plan 2 (some .int) 1 := ⟨⟨wm_61, wm_625⟩, rfl, by decide +kernel, by decide⟩
theorem mi_X7_plan : Cond.instanceMethod yX7_plan ∈ T0 ∧ Cond.selects RX7 yX7_plan yX7_plan ∈ T0 := ⟨wm_623, wm_624⟩
theorem mk_X2_isDone : uK yX2_isDone RX2 cX2_isDone 1 (some .boolean) 0 := ⟨⟨wm_69, wm_629⟩, rfl, by decide +kernel, by decide⟩
theorem mi_X2_isDone : Cond.instanceMethod yX2_isDone ∈ T0 ∧ Cond.selects RX2 yX2_isDone yX2_isDone ∈ T0 := ⟨wm_627, wm_628⟩
theorem mk_X2_findBest : uK yX2_findBest RX2 cX2_findBest 4 none 2 := ⟨⟨wm_69, wm_633⟩, rfl, by decide +kernel, by decide⟩
theorem mi_X2_findBest : Cond.instanceMethod yX2_findBest ∈ T0 ∧ Cond.selects RX2 yX2_findBest yX2_findBest ∈ T0 := ⟨wm_631, wm_632⟩
theorem mk_X2_tryFrom : uK yX2_tryFrom RX2 cX2_tryFrom 8 none 4 := ⟨⟨wm_69, wm_641⟩, rfl, by decide +kernel, by decide⟩
theorem mi_X2_tryFrom : Cond.instanceMethod yX2_tryFrom ∈ T0 ∧ Cond.selects RX2 yX2_tryFrom yX2_tryFrom ∈ T0 := ⟨wm_640, wm_20⟩
theorem mk_X2_tryPoints : uK yX2_tryPoints RX2 cX2_tryPoints 8 none 5 := ⟨⟨wm_69, wm_648⟩, rfl, by decide +kernel, by decide⟩
theorem mi_X2_tryPoints : Cond.instanceMethod yX2_tryPoints ∈ T0 ∧ Cond.selects RX2 yX2_tryPoints yX2_tryPoints ∈ T0 := ⟨wm_647, wm_21⟩
theorem mk_X2_howMuch : uK yX2_howMuch RX2 cX2_howMuch 1 (some .int) 0 := ⟨⟨wm_69, wm_655⟩, rfl, by decide +kernel, by decide⟩
theorem mi_X2_howMuch : Cond.instanceMethod yX2_howMuch ∈ T0 ∧ Cond.selects RX2 yX2_howMuch yX2_howMuch ∈ T0 := ⟨wm_653, wm_654⟩
theorem mk_X2_pointsIn : uK yX2_pointsIn RX2 cX2_pointsIn 2 (some .int) 1 := ⟨⟨wm_69, wm_659⟩, rfl, by decide +kernel, by decide⟩
theorem mi_X2_pointsIn : Cond.instanceMethod yX2_pointsIn ∈ T0 ∧ Cond.selects RX2 yX2_pointsIn yX2_pointsIn ∈ T0 := ⟨wm_657, wm_658⟩
theorem mk_X7_belief : uK yX7_belief RX7 cX7_belief 3 (some .int) 2 := ⟨⟨wm_61, wm_664⟩, rfl, by decide +kernel, by decide⟩
theorem mi_X7_belief : Cond.instanceMethod yX7_belief ∈ T0 ∧ Cond.selects RX7 yX7_belief yX7_belief ∈ T0 := ⟨wm_662, wm_663⟩
theorem mk_X7_need : uK yX7_need RX7 cX7_need 5 (some .int) 2 := ⟨⟨wm_61, wm_668⟩, rfl, by decide +kernel, by decide⟩
theorem mi_X7_need : Cond.instanceMethod yX7_need ∈ T0 ∧ Cond.selects RX7 yX7_need yX7_need ∈ T0 := ⟨wm_666, wm_667⟩
theorem mk_X7_cheapestLender : uK yX7_cheapestLender RX7 cX7_cheapestLender 5 (some .int) 1 := ⟨⟨wm_61, wm_672⟩, rfl, by decide +kernel, by decide⟩
theorem mi_X7_cheapestLender : Cond.instanceMethod yX7_cheapestLender ∈ T0 ∧ Cond.selects RX7 yX7_cheapestLender yX7_cheapestLender ∈ T0 := ⟨wm_671, wm_22⟩
theorem mk_X7_tell : uK yX7_tell RX7 cX7_tell 4 (some .int) 2 := ⟨⟨wm_61, wm_676⟩, rfl, by decide +kernel, by decide⟩
theorem mi_X7_tell : Cond.instanceMethod yX7_tell ∈ T0 ∧ Cond.selects RX7 yX7_tell yX7_tell ∈ T0 := ⟨wm_674, wm_675⟩
theorem mk_X7_worth : uK yX7_worth RX7 cX7_worth 5 (some .int) 1 := ⟨⟨wm_61, wm_680⟩, rfl, by decide +kernel, by decide⟩
theorem mi_X7_worth : Cond.instanceMethod yX7_worth ∈ T0 ∧ Cond.selects RX7 yX7_worth yX7_worth ∈ T0 := ⟨wm_678, wm_679⟩
theorem mk_X7_leastWorthFor : uK yX7_leastWorthFor RX7 cX7_leastWorthFor 2 (some .int) 1 := ⟨⟨wm_61, wm_684⟩, rfl, by decide +kernel, by decide⟩
theorem mi_X7_leastWorthFor : Cond.instanceMethod yX7_leastWorthFor ∈ T0 ∧ Cond.selects RX7 yX7_leastWorthFor yX7_leastWorthFor ∈ T0 := ⟨wm_683, wm_23⟩
theorem mk_X7_canBeSo : uK yX7_canBeSo RX7 cX7_canBeSo 5 (some .boolean) 1 := ⟨⟨wm_61, wm_688⟩, rfl, by decide +kernel, by decide⟩
theorem mi_X7_canBeSo : Cond.instanceMethod yX7_canBeSo ∈ T0 ∧ Cond.selects RX7 yX7_canBeSo yX7_canBeSo ∈ T0 := ⟨wm_687, wm_24⟩
theorem mk_X7_isFreightTold : uK yX7_isFreightTold RX7 cX7_isFreightTold 2 (some .boolean) 1 := ⟨⟨wm_61, wm_692⟩, rfl, by decide +kernel, by decide⟩
theorem mi_X7_isFreightTold : Cond.instanceMethod yX7_isFreightTold ∈ T0 ∧ Cond.selects RX7 yX7_isFreightTold yX7_isFreightTold ∈ T0 := ⟨wm_691, wm_25⟩
theorem mk_X7_worthJustFor : uK yX7_worthJustFor RX7 cX7_worthJustFor 4 (some .int) 1 := ⟨⟨wm_61, wm_696⟩, rfl, by decide +kernel, by decide⟩
theorem mi_X7_worthJustFor : Cond.instanceMethod yX7_worthJustFor ∈ T0 ∧ Cond.selects RX7 yX7_worthJustFor yX7_worthJustFor ∈ T0 := ⟨wm_695, wm_26⟩
theorem mk_X7_greatestWorthFor : uK yX7_greatestWorthFor RX7 cX7_greatestWorthFor 3 (some .int) 1 := ⟨⟨wm_61, wm_700⟩, rfl, by decide +kernel, by decide⟩
theorem mi_X7_greatestWorthFor : Cond.instanceMethod yX7_greatestWorthFor ∈ T0 ∧ Cond.selects RX7 yX7_greatestWorthFor yX7_greatestWorthFor ∈ T0 := ⟨wm_699, wm_27⟩
theorem mk_X7_write : uK yX7_write RX7 cX7_write 2 (some .int) 1 := ⟨⟨wm_61, wm_705⟩, rfl, by decide +kernel, by decide⟩
theorem mi_X7_write : Cond.instanceMethod yX7_write ∈ T0 ∧ Cond.selects RX7 yX7_write yX7_write ∈ T0 := ⟨wm_703, wm_704⟩
theorem mk_X7_tear : uK yX7_tear RX7 cX7_tear 2 (some .int) 0 := ⟨⟨wm_61, wm_709⟩, rfl, by decide +kernel, by decide⟩
theorem mi_X7_tear : Cond.instanceMethod yX7_tear ∈ T0 ∧ Cond.selects RX7 yX7_tear yX7_tear ∈ T0 := ⟨wm_707, wm_708⟩
theorem mk_X7_judge : uK yX7_judge RX7 cX7_judge 2 (some .int) 0 := ⟨⟨wm_61, wm_713⟩, rfl, by decide +kernel, by decide⟩
theorem mi_X7_judge : Cond.instanceMethod yX7_judge ∈ T0 ∧ Cond.selects RX7 yX7_judge yX7_judge ∈ T0 := ⟨wm_711, wm_712⟩
theorem mk_X7_seed : uK yX7_seed RX7 cX7_seed 3 (some .int) 1 := ⟨⟨wm_61, wm_717⟩, rfl, by decide +kernel, by decide⟩
theorem mi_X7_seed : Cond.instanceMethod yX7_seed ∈ T0 ∧ Cond.selects RX7 yX7_seed yX7_seed ∈ T0 := ⟨wm_715, wm_716⟩
theorem mk_X7_keep : uK yX7_keep RX7 cX7_keep 3 (some .int) 1 := ⟨⟨wm_61, wm_721⟩, rfl, by decide +kernel, by decide⟩
theorem mi_X7_keep : Cond.instanceMethod yX7_keep ∈ T0 ∧ Cond.selects RX7 yX7_keep yX7_keep ∈ T0 := ⟨wm_719, wm_720⟩
theorem mk_X7_imageOf : uK yX7_imageOf RX7 cX7_imageOf 2 (some (.object "BottomryLoans$Image")) 1 := ⟨⟨wm_61, wm_725⟩, rfl, by decide +kernel, by decide⟩
theorem mi_X7_imageOf : Cond.instanceMethod yX7_imageOf ∈ T0 ∧ Cond.selects RX7 yX7_imageOf yX7_imageOf ∈ T0 := ⟨wm_724, wm_28⟩
theorem mk_X7_goBack : uK yX7_goBack RX7 cX7_goBack 3 (some .int) 1 := ⟨⟨wm_61, wm_730⟩, rfl, by decide +kernel, by decide⟩
theorem mi_X7_goBack : Cond.instanceMethod yX7_goBack ∈ T0 ∧ Cond.selects RX7 yX7_goBack yX7_goBack ∈ T0 := ⟨wm_728, wm_729⟩
theorem mk_X8_init : uK yX8_init RX8 cX8_init 1 none 0 := ⟨⟨wm_70, wm_735⟩, rfl, by decide +kernel, by decide⟩
theorem mi_X8_init : Cond.instanceMethod yX8_init ∈ T0 := wm_734
theorem mk_X8_feed : uK yX8_feed RX8 cX8_feed 2 (some .int) 1 := ⟨⟨wm_70, wm_850⟩, rfl, by decide +kernel, by decide⟩
theorem mi_X8_feed : Cond.instanceMethod yX8_feed ∈ T0 ∧ Cond.selects RX8 yX8_feed yX8_feed ∈ T0 := ⟨wm_848, wm_849⟩
theorem mk_X8_in : uK yX8_in RX8 cX8_in 6 (some .boolean) 3 := ⟨⟨wm_70, wm_854⟩, rfl, by decide +kernel, by decide⟩
theorem mi_X8_in : Cond.static yX8_in ∈ T0 := wm_853
theorem mk_X8_voyage : uK yX8_voyage RX8 cX8_voyage 4 (some .int) 0 := ⟨⟨wm_70, wm_860⟩, rfl, by decide +kernel, by decide⟩
theorem mi_X8_voyage : Cond.instanceMethod yX8_voyage ∈ T0 ∧ Cond.selects RX8 yX8_voyage yX8_voyage ∈ T0 := ⟨wm_858, wm_859⟩
theorem mk_X8_here : uK yX8_here RX8 cX8_here 1 (some .int) 0 := ⟨⟨wm_70, wm_864⟩, rfl, by decide +kernel, by decide⟩
theorem mi_X8_here : Cond.instanceMethod yX8_here ∈ T0 ∧ Cond.selects RX8 yX8_here yX8_here ∈ T0 := ⟨wm_863, wm_29⟩
theorem mk_X8_letterAt : uK yX8_letterAt RX8 cX8_letterAt 2 (some .int) 1 := ⟨⟨wm_70, wm_868⟩, rfl, by decide +kernel, by decide⟩
theorem mi_X8_letterAt : Cond.instanceMethod yX8_letterAt ∈ T0 ∧ Cond.selects RX8 yX8_letterAt yX8_letterAt ∈ T0 := ⟨wm_867, wm_30⟩
theorem mk_X8_takesClause : uK yX8_takesClause RX8 cX8_takesClause 5 (some .boolean) 0 := ⟨⟨wm_70, wm_872⟩, rfl, by decide +kernel, by decide⟩
theorem mi_X8_takesClause : Cond.instanceMethod yX8_takesClause ∈ T0 ∧ Cond.selects RX8 yX8_takesClause yX8_takesClause ∈ T0 := ⟨wm_871, wm_31⟩
theorem mk_X8_fails : uK yX8_fails RX8 cX8_fails 3 (some .boolean) 2 := ⟨⟨wm_70, wm_876⟩, rfl, by decide +kernel, by decide⟩
theorem mi_X8_fails : Cond.instanceMethod yX8_fails ∈ T0 ∧ Cond.selects RX8 yX8_fails yX8_fails ∈ T0 := ⟨wm_875, wm_32⟩
theorem mk_X8_takesShip : uK yX8_takesShip RX8 cX8_takesShip 2 (some .boolean) 0 := ⟨⟨wm_70, wm_880⟩, rfl, by decide +kernel, by decide⟩
theorem mi_X8_takesShip : Cond.instanceMethod yX8_takesShip ∈ T0 ∧ Cond.selects RX8 yX8_takesShip yX8_takesShip ∈ T0 := ⟨wm_879, wm_33⟩
theorem mk_X8_takesNumber : uK yX8_takesNumber RX8 cX8_takesNumber 3 (some .boolean) 2 := ⟨⟨wm_70, wm_884⟩, rfl, by decide +kernel, by decide⟩
theorem mi_X8_takesNumber : Cond.instanceMethod yX8_takesNumber ∈ T0 ∧ Cond.selects RX8 yX8_takesNumber yX8_takesNumber ∈ T0 := ⟨wm_883, wm_34⟩
theorem mk_X8_takesLeg : uK yX8_takesLeg RX8 cX8_takesLeg 2 (some .boolean) 0 := ⟨⟨wm_70, wm_890⟩, rfl, by decide +kernel, by decide⟩
theorem mi_X8_takesLeg : Cond.instanceMethod yX8_takesLeg ∈ T0 ∧ Cond.selects RX8 yX8_takesLeg yX8_takesLeg ∈ T0 := ⟨wm_889, wm_35⟩
theorem mk_X8_takesLender : uK yX8_takesLender RX8 cX8_takesLender 2 (some .boolean) 0 := ⟨⟨wm_70, wm_894⟩, rfl, by decide +kernel, by decide⟩
theorem mi_X8_takesLender : Cond.instanceMethod yX8_takesLender ∈ T0 ∧ Cond.selects RX8 yX8_takesLender yX8_takesLender ∈ T0 := ⟨wm_893, wm_36⟩
theorem mk_X8_takes : uK yX8_takes RX8 cX8_takes 2 (some .boolean) 1 := ⟨⟨wm_70, wm_898⟩, rfl, by decide +kernel, by decide⟩
theorem mi_X8_takes : Cond.instanceMethod yX8_takes ∈ T0 ∧ Cond.selects RX8 yX8_takes yX8_takes ∈ T0 := ⟨wm_897, wm_37⟩
theorem mk_X8_fault : uK yX8_fault RX8 cX8_fault 1 (some .int) 0 := ⟨⟨wm_70, wm_902⟩, rfl, by decide +kernel, by decide⟩
theorem mi_X8_fault : Cond.instanceMethod yX8_fault ∈ T0 ∧ Cond.selects RX8 yX8_fault yX8_fault ∈ T0 := ⟨wm_900, wm_901⟩
theorem mk_X8_told : uK yX8_told RX8 cX8_told 2 (some .int) 1 := ⟨⟨wm_70, wm_906⟩, rfl, by decide +kernel, by decide⟩
theorem mi_X8_told : Cond.instanceMethod yX8_told ∈ T0 ∧ Cond.selects RX8 yX8_told yX8_told ∈ T0 := ⟨wm_904, wm_905⟩
theorem mk_X8_where : uK yX8_where RX8 cX8_where 1 (some .int) 0 := ⟨⟨wm_70, wm_910⟩, rfl, by decide +kernel, by decide⟩
theorem mi_X8_where : Cond.instanceMethod yX8_where ∈ T0 ∧ Cond.selects RX8 yX8_where yX8_where ∈ T0 := ⟨wm_909, wm_38⟩
theorem mk_X8_owed : uK yX8_owed RX8 cX8_owed 3 (some .int) 0 := ⟨⟨wm_70, wm_914⟩, rfl, by decide +kernel, by decide⟩
theorem mi_X8_owed : Cond.instanceMethod yX8_owed ∈ T0 ∧ Cond.selects RX8 yX8_owed yX8_owed ∈ T0 := ⟨wm_913, wm_39⟩
theorem mk_X8_dueOf : uK yX8_dueOf RX8 cX8_dueOf 4 (some .int) 2 := ⟨⟨wm_70, wm_918⟩, rfl, by decide +kernel, by decide⟩
theorem mi_X8_dueOf : Cond.instanceMethod yX8_dueOf ∈ T0 ∧ Cond.selects RX8 yX8_dueOf yX8_dueOf ∈ T0 := ⟨wm_917, wm_40⟩
theorem mk_X8_leftNow : uK yX8_leftNow RX8 cX8_leftNow 1 (some .int) 0 := ⟨⟨wm_70, wm_922⟩, rfl, by decide +kernel, by decide⟩
theorem mi_X8_leftNow : Cond.instanceMethod yX8_leftNow ∈ T0 ∧ Cond.selects RX8 yX8_leftNow yX8_leftNow ∈ T0 := ⟨wm_921, wm_41⟩
theorem mk_X8_paysHome : uK yX8_paysHome RX8 cX8_paysHome 4 none 2 := ⟨⟨wm_70, wm_926⟩, rfl, by decide +kernel, by decide⟩
theorem mi_X8_paysHome : Cond.instanceMethod yX8_paysHome ∈ T0 ∧ Cond.selects RX8 yX8_paysHome yX8_paysHome ∈ T0 := ⟨wm_925, wm_42⟩
theorem mk_X8_paysOf : uK yX8_paysOf RX8 cX8_paysOf 7 (some .int) 3 := ⟨⟨wm_70, wm_930⟩, rfl, by decide +kernel, by decide⟩
theorem mi_X8_paysOf : Cond.instanceMethod yX8_paysOf ∈ T0 ∧ Cond.selects RX8 yX8_paysOf yX8_paysOf ∈ T0 := ⟨wm_929, wm_43⟩
theorem mk_X8_leg : uK yX8_leg RX8 cX8_leg 3 (some .int) 2 := ⟨⟨wm_70, wm_934⟩, rfl, by decide +kernel, by decide⟩
theorem mi_X8_leg : Cond.instanceMethod yX8_leg ∈ T0 ∧ Cond.selects RX8 yX8_leg yX8_leg ∈ T0 := ⟨wm_932, wm_933⟩
theorem mk_X8_isLeg : uK yX8_isLeg RX8 cX8_isLeg 2 (some .boolean) 1 := ⟨⟨wm_70, wm_938⟩, rfl, by decide +kernel, by decide⟩
theorem mi_X8_isLeg : Cond.instanceMethod yX8_isLeg ∈ T0 ∧ Cond.selects RX8 yX8_isLeg yX8_isLeg ∈ T0 := ⟨wm_937, wm_44⟩
theorem mk_X8_oddsOf : uK yX8_oddsOf RX8 cX8_oddsOf 4 (some .int) 2 := ⟨⟨wm_70, wm_943⟩, rfl, by decide +kernel, by decide⟩
theorem mi_X8_oddsOf : Cond.instanceMethod yX8_oddsOf ∈ T0 ∧ Cond.selects RX8 yX8_oddsOf yX8_oddsOf ∈ T0 := ⟨wm_942, wm_45⟩
theorem mk_X8_lender : uK yX8_lender RX8 cX8_lender 3 (some .int) 2 := ⟨⟨wm_70, wm_947⟩, rfl, by decide +kernel, by decide⟩
theorem mi_X8_lender : Cond.instanceMethod yX8_lender ∈ T0 ∧ Cond.selects RX8 yX8_lender yX8_lender ∈ T0 := ⟨wm_945, wm_946⟩
theorem mk_X8_isLender : uK yX8_isLender RX8 cX8_isLender 2 (some .boolean) 1 := ⟨⟨wm_70, wm_951⟩, rfl, by decide +kernel, by decide⟩
theorem mi_X8_isLender : Cond.instanceMethod yX8_isLender ∈ T0 ∧ Cond.selects RX8 yX8_isLender yX8_isLender ∈ T0 := ⟨wm_950, wm_46⟩
theorem mk_X8_yetOf : uK yX8_yetOf RX8 cX8_yetOf 4 (some .int) 1 := ⟨⟨wm_70, wm_955⟩, rfl, by decide +kernel, by decide⟩
theorem mi_X8_yetOf : Cond.instanceMethod yX8_yetOf ∈ T0 ∧ Cond.selects RX8 yX8_yetOf yX8_yetOf ∈ T0 := ⟨wm_954, wm_47⟩
theorem mk_X8_loan : uK yX8_loan RX8 cX8_loan 3 (some .int) 2 := ⟨⟨wm_70, wm_959⟩, rfl, by decide +kernel, by decide⟩
theorem mi_X8_loan : Cond.instanceMethod yX8_loan ∈ T0 ∧ Cond.selects RX8 yX8_loan yX8_loan ∈ T0 := ⟨wm_957, wm_958⟩
theorem mk_X8_isLoan : uK yX8_isLoan RX8 cX8_isLoan 2 (some .boolean) 1 := ⟨⟨wm_70, wm_963⟩, rfl, by decide +kernel, by decide⟩
theorem mi_X8_isLoan : Cond.instanceMethod yX8_isLoan ∈ T0 ∧ Cond.selects RX8 yX8_isLoan yX8_isLoan ∈ T0 := ⟨wm_962, wm_48⟩
theorem mk_X8_rankOf : uK yX8_rankOf RX8 cX8_rankOf 5 (some .int) 1 := ⟨⟨wm_70, wm_967⟩, rfl, by decide +kernel, by decide⟩
theorem mi_X8_rankOf : Cond.instanceMethod yX8_rankOf ∈ T0 ∧ Cond.selects RX8 yX8_rankOf yX8_rankOf ∈ T0 := ⟨wm_966, wm_49⟩
theorem mk_X8_undo : uK yX8_undo RX8 cX8_undo 2 (some .int) 0 := ⟨⟨wm_70, wm_971⟩, rfl, by decide +kernel, by decide⟩
theorem mi_X8_undo : Cond.instanceMethod yX8_undo ∈ T0 ∧ Cond.selects RX8 yX8_undo yX8_undo ∈ T0 := ⟨wm_969, wm_970⟩
theorem mk_X8_copy : uK yX8_copy RX8 cX8_copy 4 none 2 := ⟨⟨wm_70, wm_976⟩, rfl, by decide +kernel, by decide⟩
theorem mi_X8_copy : Cond.instanceMethod yX8_copy ∈ T0 ∧ Cond.selects RX8 yX8_copy yX8_copy ∈ T0 := ⟨wm_975, wm_50⟩
theorem mk_X8_borrow : uK yX8_borrow RX8 cX8_borrow 4 (some .int) 3 := ⟨⟨wm_70, wm_980⟩, rfl, by decide +kernel, by decide⟩
theorem mi_X8_borrow : Cond.instanceMethod yX8_borrow ∈ T0 ∧ Cond.selects RX8 yX8_borrow yX8_borrow ∈ T0 := ⟨wm_978, wm_979⟩
theorem mk_X8_minds : uK yX8_minds RX8 cX8_minds 2 none 0 := ⟨⟨wm_70, wm_985⟩, rfl, by decide +kernel, by decide⟩
theorem mi_X8_minds : Cond.instanceMethod yX8_minds ∈ T0 ∧ Cond.selects RX8 yX8_minds yX8_minds ∈ T0 := ⟨wm_984, wm_51⟩
theorem mk_X8_takesLoan : uK yX8_takesLoan RX8 cX8_takesLoan 6 none 4 := ⟨⟨wm_70, wm_989⟩, rfl, by decide +kernel, by decide⟩
theorem mi_X8_takesLoan : Cond.instanceMethod yX8_takesLoan ∈ T0 ∧ Cond.selects RX8 yX8_takesLoan yX8_takesLoan ∈ T0 := ⟨wm_988, wm_52⟩
theorem mk_X8_repair : uK yX8_repair RX8 cX8_repair 2 (some .int) 1 := ⟨⟨wm_70, wm_993⟩, rfl, by decide +kernel, by decide⟩
theorem mi_X8_repair : Cond.instanceMethod yX8_repair ∈ T0 ∧ Cond.selects RX8 yX8_repair yX8_repair ∈ T0 := ⟨wm_991, wm_992⟩
theorem mk_X8_sail : uK yX8_sail RX8 cX8_sail 2 (some .int) 1 := ⟨⟨wm_70, wm_998⟩, rfl, by decide +kernel, by decide⟩
theorem mi_X8_sail : Cond.instanceMethod yX8_sail ∈ T0 ∧ Cond.selects RX8 yX8_sail yX8_sail ∈ T0 := ⟨wm_996, wm_997⟩
theorem mk_X8_sails : uK yX8_sails RX8 cX8_sails 2 none 1 := ⟨⟨wm_70, wm_1002⟩, rfl, by decide +kernel, by decide⟩
theorem mi_X8_sails : Cond.instanceMethod yX8_sails ∈ T0 ∧ Cond.selects RX8 yX8_sails yX8_sails ∈ T0 := ⟨wm_1001, wm_53⟩
theorem mk_X8_drift : uK yX8_drift RX8 cX8_drift 4 (some .int) 1 := ⟨⟨wm_70, wm_1006⟩, rfl, by decide +kernel, by decide⟩
theorem mi_X8_drift : Cond.instanceMethod yX8_drift ∈ T0 ∧ Cond.selects RX8 yX8_drift yX8_drift ∈ T0 := ⟨wm_1004, wm_1005⟩
theorem mk_X8_draw : uK yX8_draw RX8 cX8_draw 2 (some .int) 1 := ⟨⟨wm_70, wm_1011⟩, rfl, by decide +kernel, by decide⟩
theorem mi_X8_draw : Cond.instanceMethod yX8_draw ∈ T0 ∧ Cond.selects RX8 yX8_draw yX8_draw ∈ T0 := ⟨wm_1010, wm_54⟩
theorem mk_X8_comesHome : uK yX8_comesHome RX8 cX8_comesHome 1 (some .int) 0 := ⟨⟨wm_70, wm_1019⟩, rfl, by decide +kernel, by decide⟩
theorem mi_X8_comesHome : Cond.instanceMethod yX8_comesHome ∈ T0 ∧ Cond.selects RX8 yX8_comesHome yX8_comesHome ∈ T0 := ⟨wm_1017, wm_1018⟩
theorem mk_X8_isGone : uK yX8_isGone RX8 cX8_isGone 1 (some .boolean) 0 := ⟨⟨wm_70, wm_1023⟩, rfl, by decide +kernel, by decide⟩
theorem mi_X8_isGone : Cond.instanceMethod yX8_isGone ∈ T0 ∧ Cond.selects RX8 yX8_isGone yX8_isGone ∈ T0 := ⟨wm_1022, wm_55⟩
theorem mk_X8_homeNow : uK yX8_homeNow RX8 cX8_homeNow 1 (some .long) 0 := ⟨⟨wm_70, wm_1027⟩, rfl, by decide +kernel, by decide⟩
theorem mi_X8_homeNow : Cond.instanceMethod yX8_homeNow ∈ T0 ∧ Cond.selects RX8 yX8_homeNow yX8_homeNow ∈ T0 := ⟨wm_1026, wm_56⟩
theorem mk_X8_through : uK yX8_through RX8 cX8_through 8 (some .long) 3 := ⟨⟨wm_70, wm_1031⟩, rfl, by decide +kernel, by decide⟩
theorem mi_X8_through : Cond.instanceMethod yX8_through ∈ T0 ∧ Cond.selects RX8 yX8_through yX8_through ∈ T0 := ⟨wm_1030, wm_57⟩
theorem mk_X8_rate : uK yX8_rate RX8 cX8_rate 1 (some .int) 0 := ⟨⟨wm_70, wm_1037⟩, rfl, by decide +kernel, by decide⟩
theorem mi_X8_rate : Cond.instanceMethod yX8_rate ∈ T0 ∧ Cond.selects RX8 yX8_rate yX8_rate ∈ T0 := ⟨wm_1035, wm_1036⟩
theorem mk_X8_rateNow : uK yX8_rateNow RX8 cX8_rateNow 4 (some .int) 0 := ⟨⟨wm_70, wm_1041⟩, rfl, by decide +kernel, by decide⟩
theorem mi_X8_rateNow : Cond.instanceMethod yX8_rateNow ∈ T0 ∧ Cond.selects RX8 yX8_rateNow yX8_rateNow ∈ T0 := ⟨wm_1040, wm_58⟩
theorem mk_X8_willing : uK yX8_willing RX8 cX8_willing 4 (some .int) 0 := ⟨⟨wm_70, wm_1046⟩, rfl, by decide +kernel, by decide⟩
theorem mi_X8_willing : Cond.instanceMethod yX8_willing ∈ T0 ∧ Cond.selects RX8 yX8_willing yX8_willing ∈ T0 := ⟨wm_1044, wm_1045⟩
theorem mk_X8_paid : uK yX8_paid RX8 cX8_paid 2 (some .int) 1 := ⟨⟨wm_70, wm_1050⟩, rfl, by decide +kernel, by decide⟩
theorem mi_X8_paid : Cond.instanceMethod yX8_paid ∈ T0 ∧ Cond.selects RX8 yX8_paid yX8_paid ∈ T0 := ⟨wm_1048, wm_1049⟩
theorem mk_X8_hurt : uK yX8_hurt RX8 cX8_hurt 6 (some .int) 3 := ⟨⟨wm_70, wm_1054⟩, rfl, by decide +kernel, by decide⟩
theorem mi_X8_hurt : Cond.instanceMethod yX8_hurt ∈ T0 ∧ Cond.selects RX8 yX8_hurt yX8_hurt ∈ T0 := ⟨wm_1052, wm_1053⟩
theorem mk_X8_share : uK yX8_share RX8 cX8_share 3 (some .int) 2 := ⟨⟨wm_70, wm_1058⟩, rfl, by decide +kernel, by decide⟩
theorem mi_X8_share : Cond.instanceMethod yX8_share ∈ T0 ∧ Cond.selects RX8 yX8_share yX8_share ∈ T0 := ⟨wm_1056, wm_1057⟩
theorem mk_X8_plan : uK yX8_plan RX8 cX8_plan 5 (some .int) 1 := ⟨⟨wm_70, wm_1062⟩, rfl, by decide +kernel, by decide⟩
theorem mi_X8_plan : Cond.instanceMethod yX8_plan ∈ T0 ∧ Cond.selects RX8 yX8_plan yX8_plan ∈ T0 := ⟨wm_1060, wm_1061⟩
theorem mk_X8_findPlan : uK yX8_findPlan RX8 cX8_findPlan 12 none 0 := ⟨⟨wm_70, wm_1066⟩, rfl, by decide +kernel, by decide⟩
theorem mi_X8_findPlan : Cond.instanceMethod yX8_findPlan ∈ T0 ∧ Cond.selects RX8 yX8_findPlan yX8_findPlan ∈ T0 := ⟨wm_1065, wm_59⟩
theorem mk_X8_belief : uK yX8_belief RX8 cX8_belief 4 (some .int) 2 := ⟨⟨wm_70, wm_1072⟩, rfl, by decide +kernel, by decide⟩
theorem mi_X8_belief : Cond.instanceMethod yX8_belief ∈ T0 ∧ Cond.selects RX8 yX8_belief yX8_belief ∈ T0 := ⟨wm_1070, wm_1071⟩
theorem mk_X8_need : uK yX8_need RX8 cX8_need 8 (some .int) 2 := ⟨⟨wm_70, wm_1076⟩, rfl, by decide +kernel, by decide⟩
theorem mi_X8_need : Cond.instanceMethod yX8_need ∈ T0 ∧ Cond.selects RX8 yX8_need yX8_need ∈ T0 := ⟨wm_1074, wm_1075⟩
theorem mk_X8_tell : uK yX8_tell RX8 cX8_tell 3 (some .int) 2 := ⟨⟨wm_70, wm_1080⟩, rfl, by decide +kernel, by decide⟩
theorem mi_X8_tell : Cond.instanceMethod yX8_tell ∈ T0 ∧ Cond.selects RX8 yX8_tell yX8_tell ∈ T0 := ⟨wm_1078, wm_1079⟩
theorem mk_X8_worth : uK yX8_worth RX8 cX8_worth 8 (some .int) 1 := ⟨⟨wm_70, wm_1085⟩, rfl, by decide +kernel, by decide⟩
theorem mi_X8_worth : Cond.instanceMethod yX8_worth ∈ T0 ∧ Cond.selects RX8 yX8_worth yX8_worth ∈ T0 := ⟨wm_1083, wm_1084⟩
theorem mk_X8_write : uK yX8_write RX8 cX8_write 2 (some .int) 1 := ⟨⟨wm_70, wm_1090⟩, rfl, by decide +kernel, by decide⟩
theorem mi_X8_write : Cond.instanceMethod yX8_write ∈ T0 ∧ Cond.selects RX8 yX8_write yX8_write ∈ T0 := ⟨wm_1088, wm_1089⟩
theorem mk_X8_tear : uK yX8_tear RX8 cX8_tear 2 (some .int) 0 := ⟨⟨wm_70, wm_1094⟩, rfl, by decide +kernel, by decide⟩
theorem mi_X8_tear : Cond.instanceMethod yX8_tear ∈ T0 ∧ Cond.selects RX8 yX8_tear yX8_tear ∈ T0 := ⟨wm_1092, wm_1093⟩
theorem mk_X8_judge : uK yX8_judge RX8 cX8_judge 2 (some .int) 0 := ⟨⟨wm_70, wm_1098⟩, rfl, by decide +kernel, by decide⟩
theorem mi_X8_judge : Cond.instanceMethod yX8_judge ∈ T0 ∧ Cond.selects RX8 yX8_judge yX8_judge ∈ T0 := ⟨wm_1096, wm_1097⟩
theorem mk_X8_seed : uK yX8_seed RX8 cX8_seed 3 (some .int) 1 := ⟨⟨wm_70, wm_1102⟩, rfl, by decide +kernel, by decide⟩
theorem mi_X8_seed : Cond.instanceMethod yX8_seed ∈ T0 ∧ Cond.selects RX8 yX8_seed yX8_seed ∈ T0 := ⟨wm_1100, wm_1101⟩
theorem mk_X8_keep : uK yX8_keep RX8 cX8_keep 2 (some .int) 1 := ⟨⟨wm_70, wm_1106⟩, rfl, by decide +kernel, by decide⟩
theorem mi_X8_keep : Cond.instanceMethod yX8_keep ∈ T0 ∧ Cond.selects RX8 yX8_keep yX8_keep ∈ T0 := ⟨wm_1104, wm_1105⟩
theorem mk_X8_goBack : uK yX8_goBack RX8 cX8_goBack 2 (some .int) 1 := ⟨⟨wm_70, wm_1110⟩, rfl, by decide +kernel, by decide⟩
theorem mi_X8_goBack : Cond.instanceMethod yX8_goBack ∈ T0 ∧ Cond.selects RX8 yX8_goBack yX8_goBack ∈ T0 := ⟨wm_1108, wm_1109⟩
end
section
/-! contracts over the universe: cF_ say exactly what comes back and what the tables hold then; cR_ say it by a relation -/
def cF_i (l : Launch) (y : MethodName) (cc : ByteArray) (mL : Nat) (ret : Option FieldType) (d : Nat) (g : uG) (argv : List Value) (t : uN) (f : uF) (r : Int) (t' : uN) (f' : uF) : Prop := uM l y cc mL ret d 0 0 g argv 117 (cX g t f) (uQi g (fun _ : Unit => 117) (fun _ => cX g t' f') (fun z _ => z = r))
def cF_l (l : Launch) (y : MethodName) (cc : ByteArray) (mL : Nat) (d : Nat) (g : uG) (argv : List Value) (t : uN) (f : uF) (r : Int) (t' : uN) (f' : uF) : Prop := uM l y cc mL (some .long) d 0 0 g argv 117 (cX g t f) (uQl g (fun _ : Unit => 117) (fun _ => cX g t' f') (fun z _ => z = r))
def cF_v (l : Launch) (y : MethodName) (cc : ByteArray) (mL : Nat) (d : Nat) (g : uG) (argv : List Value) (t : uN) (f : uF) (t' : uN) (f' : uF) : Prop := uM l y cc mL none d 0 0 g argv 117 (cX g t f) (uQv g (fun _ : Unit => 117) (fun _ => cX g t' f') (fun _ => True))
def cF_q (l : Launch) (y : MethodName) (cc : ByteArray) (mL : Nat) (C : String) (d : Nat) (g : uG) (argv : List Value) (t : uN) (f : uF) (r : Option Nat) (t' : uN) (f' : uF) : Prop := uM l y cc mL (some (.object C)) d 0 0 g argv 117 (cX g t f) (uQq g (fun _ : Unit => 117) (fun _ => cX g t' f') (fun z _ => z = r))
def cR_i (l : Launch) (y : MethodName) (cc : ByteArray) (mL : Nat) (ret : Option FieldType) (d : Nat) (g : uG) (argv : List Value) (t : uN) (f : uF) (post : Int → uN → uF → Prop) : Prop := uM l y cc mL ret d 0 0 g argv 117 (cX g t f) (uQi g (fun _ : uN × uF => 117) (fun u => cX g u.1 u.2) (fun z u => post z u.1 u.2))
def cR_v (l : Launch) (y : MethodName) (cc : ByteArray) (mL : Nat) (d : Nat) (g : uG) (argv : List Value) (t : uN) (f : uF) (post : uN → uF → Prop) : Prop := uM l y cc mL none d 0 0 g argv 117 (cX g t f) (uQv g (fun _ : uN × uF => 117) (fun u => cX g u.1 u.2) (fun u => post u.1 u.2))
section FENT
variable {l : Launch} {y : MethodName} {cc : ByteArray} {mL : Nat} {d : Nat} {g : uG} {argv : List Value} {t t' : uN} {f f' : uF} {r : Int}
theorem eF_i (hy : plainName y.cls = true) (hlen : (lg_sl argv).length ≤ mL)
    (body : ∀ (p : Program) (e : Env) (R : Room) (s : State) (m : MethodId) (args : Array Value) (below : List Frame) (meth : Method) (c : Code) (Q : State → Prop) (ls : Array Slot) (H : Heap) (locs : List Loc), uX p d R s m args c cc mL y.cls → uY g 117 (cX g t f) s H locs → lv_has ls mL (lv_args 0 argv) →
      (∀ (pc : Nat) (H : Heap) (locs : List Loc) (ls : Array Slot) (z : Int) (t1 : uN) (f1 : uF), decode cc pc = .ok (.ireturn, 1) → uY g 117 (cX g t1 f1) s H locs → z = r ∧ t1 = t' ∧ f1 = f' → W p l e R s m args below meth c H locs 0 0 Q (F0 m pc ls [.int (iV z)])) →
      W p l e R s m args below meth c H locs 0 0 Q (F0 m 0 ls [])) : cF_i l y cc mL (some .int) d g argv t f r t' f' :=
  u_ent_i hy hlen fun p e R s m args below meth c Q ls X Y hl ret => body p e R s m args below meth c Q ls s.heap [] X Y hl fun pc H locs ls z t1 f1 hdg Y2 ⟨h1, h2, h3⟩ => ret pc H locs ls z () hdg (by rw [h2, h3] at Y2; exact Y2) h1
theorem eF_z (hy : plainName y.cls = true) (hlen : (lg_sl argv).length ≤ mL)
    (body : ∀ (p : Program) (e : Env) (R : Room) (s : State) (m : MethodId) (args : Array Value) (below : List Frame) (meth : Method) (c : Code) (Q : State → Prop) (ls : Array Slot) (H : Heap) (locs : List Loc), uX p d R s m args c cc mL y.cls → uY g 117 (cX g t f) s H locs → lv_has ls mL (lv_args 0 argv) →
      (∀ (pc : Nat) (H : Heap) (locs : List Loc) (ls : Array Slot) (z : Int) (t1 : uN) (f1 : uF), decode cc pc = .ok (.ireturn, 1) → uY g 117 (cX g t1 f1) s H locs → (z = 0 ∨ z = 1) → z = r ∧ t1 = t' ∧ f1 = f' → W p l e R s m args below meth c H locs 0 0 Q (F0 m pc ls [.int (iV z)])) →
      W p l e R s m args below meth c H locs 0 0 Q (F0 m 0 ls [])) : cF_i l y cc mL (some .boolean) d g argv t f r t' f' :=
  u_ent_z hy hlen fun p e R s m args below meth c Q ls X Y hl ret => body p e R s m args below meth c Q ls s.heap [] X Y hl fun pc H locs ls z t1 f1 hdg Y2 hz ⟨h1, h2, h3⟩ => ret pc H locs ls z () hdg (by rw [h2, h3] at Y2; exact Y2) hz h1
theorem eF_l (hy : plainName y.cls = true) (hlen : (lg_sl argv).length ≤ mL)
    (body : ∀ (p : Program) (e : Env) (R : Room) (s : State) (m : MethodId) (args : Array Value) (below : List Frame) (meth : Method) (c : Code) (Q : State → Prop) (ls : Array Slot) (H : Heap) (locs : List Loc), uX p d R s m args c cc mL y.cls → uY g 117 (cX g t f) s H locs → lv_has ls mL (lv_args 0 argv) →
      (∀ (pc : Nat) (H : Heap) (locs : List Loc) (ls : Array Slot) (z : Int) (t1 : uN) (f1 : uF), decode cc pc = .ok (.lreturn, 1) → uY g 117 (cX g t1 f1) s H locs → z = r ∧ t1 = t' ∧ f1 = f' → W p l e R s m args below meth c H locs 0 0 Q (F0 m pc ls [.long (lV z)])) →
      W p l e R s m args below meth c H locs 0 0 Q (F0 m 0 ls [])) : cF_l l y cc mL d g argv t f r t' f' :=
  u_ent_l hy hlen fun p e R s m args below meth c Q ls X Y hl ret => body p e R s m args below meth c Q ls s.heap [] X Y hl fun pc H locs ls z t1 f1 hdg Y2 ⟨h1, h2, h3⟩ => ret pc H locs ls z () hdg (by rw [h2, h3] at Y2; exact Y2) h1
theorem eF_v (hy : plainName y.cls = true) (hlen : (lg_sl argv).length ≤ mL)
    (body : ∀ (p : Program) (e : Env) (R : Room) (s : State) (m : MethodId) (args : Array Value) (below : List Frame) (meth : Method) (c : Code) (Q : State → Prop) (ls : Array Slot) (H : Heap) (locs : List Loc), uX p d R s m args c cc mL y.cls → uY g 117 (cX g t f) s H locs → lv_has ls mL (lv_args 0 argv) →
      (∀ (pc : Nat) (H : Heap) (locs : List Loc) (ls : Array Slot) (t1 : uN) (f1 : uF), decode cc pc = .ok (.return_, 1) → uY g 117 (cX g t1 f1) s H locs → t1 = t' ∧ f1 = f' → W p l e R s m args below meth c H locs 0 0 Q (F0 m pc ls [])) →
      W p l e R s m args below meth c H locs 0 0 Q (F0 m 0 ls [])) : cF_v l y cc mL d g argv t f t' f' :=
  u_ent_v hy hlen fun p e R s m args below meth c Q ls X _ _ Y hl ret => body p e R s m args below meth c Q ls s.heap [] X Y hl fun pc H locs ls t1 f1 hdg Y2 ⟨h2, h3⟩ => ret pc H locs ls () hdg (by rw [h2, h3] at Y2; exact Y2) trivial
theorem eF_q {C : String} {r : Option Nat} (hy : plainName y.cls = true) (hlen : (lg_sl argv).length ≤ mL)
    (body : ∀ (p : Program) (e : Env) (R : Room) (s : State) (m : MethodId) (args : Array Value) (below : List Frame) (meth : Method) (c : Code) (Q : State → Prop) (ls : Array Slot) (H : Heap) (locs : List Loc), uX p d R s m args c cc mL y.cls → uY g 117 (cX g t f) s H locs → lv_has ls mL (lv_args 0 argv) →
      (∀ (pc : Nat) (H : Heap) (locs : List Loc) (ls : Array Slot) (v : Value) (t1 : uN) (f1 : uF), decode cc pc = .ok (.areturn, 1) → uY g 117 (cX g t1 f1) s H locs → v = va_rf r ∧ t1 = t' ∧ f1 = f' → W p l e R s m args below meth c H locs 0 0 Q (F0 m pc ls [v])) →
      W p l e R s m args below meth c H locs 0 0 Q (F0 m 0 ls [])) : cF_q l y cc mL C d g argv t f r t' f' :=
  u_ent_q hy hlen fun p e R s m args below meth c Q ls X Y hl ret => body p e R s m args below meth c Q ls s.heap [] X Y hl fun pc H locs ls v t1 f1 hdg Y2 ⟨h1, h2, h3⟩ => ret pc H locs ls r v () hdg h1 (by rw [h2, h3] at Y2; exact Y2) rfl
theorem eR_i {post : Int → uN → uF → Prop} (hy : plainName y.cls = true) (hlen : (lg_sl argv).length ≤ mL)
    (body : ∀ (p : Program) (e : Env) (R : Room) (s : State) (m : MethodId) (args : Array Value) (below : List Frame) (meth : Method) (c : Code) (Q : State → Prop) (ls : Array Slot) (H : Heap) (locs : List Loc), uX p d R s m args c cc mL y.cls → uY g 117 (cX g t f) s H locs → lv_has ls mL (lv_args 0 argv) →
      (∀ (pc : Nat) (H : Heap) (locs : List Loc) (ls : Array Slot) (z : Int) (t1 : uN) (f1 : uF), decode cc pc = .ok (.ireturn, 1) → uY g 117 (cX g t1 f1) s H locs → post z t1 f1 → W p l e R s m args below meth c H locs 0 0 Q (F0 m pc ls [.int (iV z)])) →
      W p l e R s m args below meth c H locs 0 0 Q (F0 m 0 ls [])) : cR_i l y cc mL (some .int) d g argv t f post :=
  u_ent_i hy hlen fun p e R s m args below meth c Q ls X Y hl ret => body p e R s m args below meth c Q ls s.heap [] X Y hl fun pc H locs ls z t1 f1 hdg Y2 h1 => ret pc H locs ls z (t1, f1) hdg Y2 h1
theorem eR_z {post : Int → uN → uF → Prop} (hy : plainName y.cls = true) (hlen : (lg_sl argv).length ≤ mL)
    (body : ∀ (p : Program) (e : Env) (R : Room) (s : State) (m : MethodId) (args : Array Value) (below : List Frame) (meth : Method) (c : Code) (Q : State → Prop) (ls : Array Slot) (H : Heap) (locs : List Loc), uX p d R s m args c cc mL y.cls → uY g 117 (cX g t f) s H locs → lv_has ls mL (lv_args 0 argv) →
      (∀ (pc : Nat) (H : Heap) (locs : List Loc) (ls : Array Slot) (z : Int) (t1 : uN) (f1 : uF), decode cc pc = .ok (.ireturn, 1) → uY g 117 (cX g t1 f1) s H locs → (z = 0 ∨ z = 1) → post z t1 f1 → W p l e R s m args below meth c H locs 0 0 Q (F0 m pc ls [.int (iV z)])) →
      W p l e R s m args below meth c H locs 0 0 Q (F0 m 0 ls [])) : cR_i l y cc mL (some .boolean) d g argv t f post :=
  u_ent_z hy hlen fun p e R s m args below meth c Q ls X Y hl ret => body p e R s m args below meth c Q ls s.heap [] X Y hl fun pc H locs ls z t1 f1 hdg Y2 hz h1 => ret pc H locs ls z (t1, f1) hdg Y2 hz h1
theorem eR_v {post : uN → uF → Prop} (hy : plainName y.cls = true) (hlen : (lg_sl argv).length ≤ mL)
    (body : ∀ (p : Program) (e : Env) (R : Room) (s : State) (m : MethodId) (args : Array Value) (below : List Frame) (meth : Method) (c : Code) (Q : State → Prop) (ls : Array Slot) (H : Heap) (locs : List Loc), uX p d R s m args c cc mL y.cls → uY g 117 (cX g t f) s H locs → lv_has ls mL (lv_args 0 argv) →
      (∀ (pc : Nat) (H : Heap) (locs : List Loc) (ls : Array Slot) (t1 : uN) (f1 : uF), decode cc pc = .ok (.return_, 1) → uY g 117 (cX g t1 f1) s H locs → post t1 f1 → W p l e R s m args below meth c H locs 0 0 Q (F0 m pc ls [])) →
      W p l e R s m args below meth c H locs 0 0 Q (F0 m 0 ls [])) : cR_v l y cc mL d g argv t f post :=
  u_ent_v hy hlen fun p e R s m args below meth c Q ls X _ _ Y hl ret => body p e R s m args below meth c Q ls s.heap [] X Y hl fun pc H locs ls t1 f1 hdg Y2 h1 => ret pc H locs ls (t1, f1) hdg Y2 h1
end FENT
section FCALLS
variable {p : Program} {l : Launch} {e : Env} {R : Room} {s : State} {m : MethodId} {args : Array Value} {below : List Frame} {meth : Method} {c : Code} {H : Heap} {locs : List Loc} {cells slots : Nat} {Q : State → Prop}
variable {cc : ByteArray} {pc d nL : Nat} {own : String} {ls : Array Slot} {lv : List (Nat × Value)} {g : uG} {t t' : uN} {f f' : uF} {r : Int}
variable {y : MethodName} {C : String} {cc2 : ByteArray} {mL np idx d2 : Nat} {ret : Option FieldType} {b : Nat}
theorem vF_i (X : uX p d R s m args c cc nL own) (Y : uY g 117 (cX g t f) s H locs) (As rest : List Value) (hM : cF_i l y cc2 mL ret d2 g (.ref b :: As) t f r t' f') (K : uK y C cc2 mL ret np) (hi : Cond.instanceMethod y ∈ T0 ∧ Cond.selects C y y ∈ T0) (hl : Cond.methodLink own idx y ∈ T0) (hd : d2 + 1 ≤ d) (hrecv : ∃ cell : Cell, H[b]? = some cell ∧ cell.vm.isStatics = false ∧ s.vm.findClass C = some cell.cls) (hn : As.length = np) (hlv : lv_has ls nL lv) (hW : (rest.map fun v => v.category).sum ≤ 8) {st : List Value} (hst : st = As.reverse ++ .ref b :: rest) (hdg : decode cc pc = .ok (.invokevirtual idx, 3)) (hc : cells ≤ R.cells) (hs : slots ≤ R.slots)
    (kk : ∀ (H1 : Heap) (locs1 : List Loc), uY g 117 (cX g t' f') s H1 locs1 → W p l e R s m args below meth c H1 locs1 cells slots Q (F0 m (pc + 3) ls (.int (iV r) :: rest))) : W p l e R s m args below meth c H locs cells slots Q (F0 m pc ls st) :=
  u_bi Y (u_runV X Y hM K hi hl hd hrecv hn hlv hW hst hdg ⟨hc, hs⟩) fun z u H1 locs1 hz Y1 => by
    subst hz
    exact kk H1 locs1 Y1
theorem vF_l (X : uX p d R s m args c cc nL own) (Y : uY g 117 (cX g t f) s H locs) (As rest : List Value) (hM : cF_l l y cc2 mL d2 g (.ref b :: As) t f r t' f') (K : uK y C cc2 mL (some .long) np) (hi : Cond.instanceMethod y ∈ T0 ∧ Cond.selects C y y ∈ T0) (hl : Cond.methodLink own idx y ∈ T0) (hd : d2 + 1 ≤ d) (hrecv : ∃ cell : Cell, H[b]? = some cell ∧ cell.vm.isStatics = false ∧ s.vm.findClass C = some cell.cls) (hn : As.length = np) (hlv : lv_has ls nL lv) (hW : (rest.map fun v => v.category).sum ≤ 8) {st : List Value} (hst : st = As.reverse ++ .ref b :: rest) (hdg : decode cc pc = .ok (.invokevirtual idx, 3)) (hc : cells ≤ R.cells) (hs : slots ≤ R.slots)
    (kk : ∀ (H1 : Heap) (locs1 : List Loc), uY g 117 (cX g t' f') s H1 locs1 → W p l e R s m args below meth c H1 locs1 cells slots Q (F0 m (pc + 3) ls (.long (lV r) :: rest))) : W p l e R s m args below meth c H locs cells slots Q (F0 m pc ls st) :=
  u_bl Y (u_runV X Y hM K hi hl hd hrecv hn hlv hW hst hdg ⟨hc, hs⟩) fun z u H1 locs1 hz Y1 => by
    subst hz
    exact kk H1 locs1 Y1
theorem vF_v (X : uX p d R s m args c cc nL own) (Y : uY g 117 (cX g t f) s H locs) (As rest : List Value) (hM : cF_v l y cc2 mL d2 g (.ref b :: As) t f t' f') (K : uK y C cc2 mL none np) (hi : Cond.instanceMethod y ∈ T0 ∧ Cond.selects C y y ∈ T0) (hl : Cond.methodLink own idx y ∈ T0) (hd : d2 + 1 ≤ d) (hrecv : ∃ cell : Cell, H[b]? = some cell ∧ cell.vm.isStatics = false ∧ s.vm.findClass C = some cell.cls) (hn : As.length = np) (hlv : lv_has ls nL lv) (hW : (rest.map fun v => v.category).sum ≤ 8) {st : List Value} (hst : st = As.reverse ++ .ref b :: rest) (hdg : decode cc pc = .ok (.invokevirtual idx, 3)) (hc : cells ≤ R.cells) (hs : slots ≤ R.slots)
    (kk : ∀ (H1 : Heap) (locs1 : List Loc), uY g 117 (cX g t' f') s H1 locs1 → W p l e R s m args below meth c H1 locs1 cells slots Q (F0 m (pc + 3) ls rest)) : W p l e R s m args below meth c H locs cells slots Q (F0 m pc ls st) :=
  u_bv Y (u_runV X Y hM K hi hl hd hrecv hn hlv hW hst hdg ⟨hc, hs⟩) fun u H1 locs1 _ Y1 => kk H1 locs1 Y1
theorem vF_q {r : Option Nat} {Cr : String} (X : uX p d R s m args c cc nL own) (Y : uY g 117 (cX g t f) s H locs) (As rest : List Value) (hM : cF_q l y cc2 mL Cr d2 g (.ref b :: As) t f r t' f') (K : uK y C cc2 mL (some (.object Cr)) np) (hi : Cond.instanceMethod y ∈ T0 ∧ Cond.selects C y y ∈ T0) (hl : Cond.methodLink own idx y ∈ T0) (hd : d2 + 1 ≤ d) (hrecv : ∃ cell : Cell, H[b]? = some cell ∧ cell.vm.isStatics = false ∧ s.vm.findClass C = some cell.cls) (hn : As.length = np) (hlv : lv_has ls nL lv) (hW : (rest.map fun v => v.category).sum ≤ 8) {st : List Value} (hst : st = As.reverse ++ .ref b :: rest) (hdg : decode cc pc = .ok (.invokevirtual idx, 3)) (hc : cells ≤ R.cells) (hs : slots ≤ R.slots)
    (kk : ∀ (H1 : Heap) (locs1 : List Loc), uY g 117 (cX g t' f') s H1 locs1 → W p l e R s m args below meth c H1 locs1 cells slots Q (F0 m (pc + 3) ls (va_rf r :: rest))) : W p l e R s m args below meth c H locs cells slots Q (F0 m pc ls st) :=
  u_bq Y (u_runV X Y hM K hi hl hd hrecv hn hlv hW hst hdg ⟨hc, hs⟩) fun z u H1 locs1 hz Y1 => by
    subst hz
    exact kk H1 locs1 Y1
theorem sF_i (X : uX p d R s m args c cc nL own) (Y : uY g 117 (cX g t f) s H locs) (As rest : List Value) (hM : cF_i l y cc2 mL ret d2 g As t f r t' f') (K : uK y C cc2 mL ret np) (hi : Cond.static y ∈ T0) (hl : Cond.methodLink own idx y ∈ T0) (hd : d2 + 1 ≤ d) (hn : As.length = np) (hlv : lv_has ls nL lv) (hW : (rest.map fun v => v.category).sum ≤ 8) {st : List Value} (hst : st = As.reverse ++ rest) (hdg : decode cc pc = .ok (.invokestatic idx, 3)) (hc : cells ≤ R.cells) (hs : slots ≤ R.slots)
    (kk : ∀ (H1 : Heap) (locs1 : List Loc), uY g 117 (cX g t' f') s H1 locs1 → W p l e R s m args below meth c H1 locs1 cells slots Q (F0 m (pc + 3) ls (.int (iV r) :: rest))) : W p l e R s m args below meth c H locs cells slots Q (F0 m pc ls st) :=
  u_bi Y (u_runS X Y hM K hi hl hd hn hlv hW hst hdg ⟨hc, hs⟩) fun z u H1 locs1 hz Y1 => by
    subst hz
    exact kk H1 locs1 Y1
theorem vR_i {post : Int → uN → uF → Prop} (X : uX p d R s m args c cc nL own) (Y : uY g 117 (cX g t f) s H locs) (As rest : List Value) (hM : cR_i l y cc2 mL ret d2 g (.ref b :: As) t f post) (K : uK y C cc2 mL ret np) (hi : Cond.instanceMethod y ∈ T0 ∧ Cond.selects C y y ∈ T0) (hl : Cond.methodLink own idx y ∈ T0) (hd : d2 + 1 ≤ d) (hrecv : ∃ cell : Cell, H[b]? = some cell ∧ cell.vm.isStatics = false ∧ s.vm.findClass C = some cell.cls) (hn : As.length = np) (hlv : lv_has ls nL lv) (hW : (rest.map fun v => v.category).sum ≤ 8) {st : List Value} (hst : st = As.reverse ++ .ref b :: rest) (hdg : decode cc pc = .ok (.invokevirtual idx, 3)) (hc : cells ≤ R.cells) (hs : slots ≤ R.slots)
    (kk : ∀ (r : Int) (t' : uN) (f' : uF) (H1 : Heap) (locs1 : List Loc), post r t' f' → uY g 117 (cX g t' f') s H1 locs1 → W p l e R s m args below meth c H1 locs1 cells slots Q (F0 m (pc + 3) ls (.int (iV r) :: rest))) : W p l e R s m args below meth c H locs cells slots Q (F0 m pc ls st) :=
  u_bi Y (u_runV X Y hM K hi hl hd hrecv hn hlv hW hst hdg ⟨hc, hs⟩) fun z u H1 locs1 hz Y1 => kk z u.1 u.2 H1 locs1 hz Y1
theorem vR_v {post : uN → uF → Prop} (X : uX p d R s m args c cc nL own) (Y : uY g 117 (cX g t f) s H locs) (As rest : List Value) (hM : cR_v l y cc2 mL d2 g (.ref b :: As) t f post) (K : uK y C cc2 mL none np) (hi : Cond.instanceMethod y ∈ T0 ∧ Cond.selects C y y ∈ T0) (hl : Cond.methodLink own idx y ∈ T0) (hd : d2 + 1 ≤ d) (hrecv : ∃ cell : Cell, H[b]? = some cell ∧ cell.vm.isStatics = false ∧ s.vm.findClass C = some cell.cls) (hn : As.length = np) (hlv : lv_has ls nL lv) (hW : (rest.map fun v => v.category).sum ≤ 8) {st : List Value} (hst : st = As.reverse ++ .ref b :: rest) (hdg : decode cc pc = .ok (.invokevirtual idx, 3)) (hc : cells ≤ R.cells) (hs : slots ≤ R.slots)
    (kk : ∀ (t' : uN) (f' : uF) (H1 : Heap) (locs1 : List Loc), post t' f' → uY g 117 (cX g t' f') s H1 locs1 → W p l e R s m args below meth c H1 locs1 cells slots Q (F0 m (pc + 3) ls rest)) : W p l e R s m args below meth c H locs cells slots Q (F0 m pc ls st) :=
  u_bv Y (u_runV X Y hM K hi hl hd hrecv hn hlv hW hst hdg ⟨hc, hs⟩) fun u H1 locs1 hz Y1 => kk u.1 u.2 H1 locs1 hz Y1
end FCALLS
end
section
/-! rests of divisions; what the tables' methods say -/
theorem tmod_as (a b : Int) : a - a.tdiv b * b = a.tmod b := by rw [Int.tmod_def, Int.mul_comm]
section ROWS2
variable {p : Program} {l : Launch} {e : Env} {R : Room} {s : State} {m : MethodId} {args : Array Value} {below : List Frame} {meth : Method} {c : Code} {H : Heap} {locs : List Loc} {cells slots : Nat} {Q : State → Prop}
variable {cc : ByteArray} {pc d nL : Nat} {own : String} {ls : Array Slot} {rest : List Value}
theorem r_irem (X : uX p d R s m args c cc nL own) {a b : Int} (hdg : decode cc pc = .ok (.irem, 1)) (ha : inI a) (hb : inI b) (h0 : 0 < b) (k : W p l e R s m args below meth c H locs cells slots Q (F0 m (pc + 1) ls (.int (iV (a.tmod b)) :: rest))) : W p l e R s m args below meth c H locs cells slots Q (F0 m pc ls (.int (iV b) :: .int (iV a) :: rest)) := lv_irem X.1 X.2.1 hdg (by rw [iV_0, iV_inj hb (by omega)]; omega) (by rw [iV_div ha hb (by omega), iV_mul, iV_sub, tmod_as]; exact k)
theorem r_lrem (X : uX p d R s m args c cc nL own) {a b : Int} (hdg : decode cc pc = .ok (.lrem, 1)) (ha : inL a) (hb : inL b) (h0 : 0 < b) (k : W p l e R s m args below meth c H locs cells slots Q (F0 m (pc + 1) ls (.long (lV (a.tmod b)) :: rest))) : W p l e R s m args below meth c H locs cells slots Q (F0 m pc ls (.long (lV b) :: .long (lV a) :: rest)) := lv_lrem X.1 X.2.1 hdg (by rw [show (0 : Int64) = lV 0 from rfl, lV_inj hb (by omega)]; omega) (by rw [lV_div ha hb h0, lV_mul, lV_sub, tmod_as]; exact k)
end ROWS2
def cellZ (t : uN) (k : Nat) (row col : Int) : Int := if 0 ≤ row ∧ row < t k 3 ∧ 0 ≤ col ∧ col < tw k then row * tw k + col else -1
def tget (t : uN) (f : uF) (k : Nat) (row col : Int) : Int := if 0 ≤ row ∧ row < t k 3 ∧ 0 ≤ col ∧ col < tw k then f (k + 1) (row * tw k + col) else 0
def tset (t : uN) (f : uF) (k : Nat) (row col v : Int) : uF := if 0 ≤ row ∧ row < t k 3 ∧ 0 ≤ col ∧ col < tw k then upA f (k + 1) (row * tw k + col) v else f
def tOK (t : uN) (k : Nat) : Prop := 0 ≤ t k 3 ∧ t k 3 ≤ tm k
theorem cell_rng {t : uN} {k : Nat} (hk : kd k = 5) (ht : tOK t k) {row col : Int} (h : 0 ≤ row ∧ row < t k 3 ∧ 0 ≤ col ∧ col < tw k) : 0 ≤ row * tw k + col ∧ row * tw k + col < (al (k + 1) : Nat) ∧ row * tw k + col < 220 := by
  obtain ⟨h1, h2, h3, h4⟩ := h
  obtain ⟨w1, w2, w3, w4, w5⟩ := kd5_w hk
  have e := kd5_al hk
  have m1 : 0 ≤ row * tw k := Int.mul_nonneg h1 (by omega)
  have m2 : (row + 1) * tw k ≤ tm k * tw k := Int.mul_le_mul_of_nonneg_right (by have := ht.2; omega) (by omega)
  rw [Int.add_mul, Int.one_mul, Int.mul_comm (tm k)] at m2
  omega
theorem cellZ_rng {t : uN} {k : Nat} (hk : kd k = 5) (ht : tOK t k) (row col : Int) : -1 ≤ cellZ t k row col ∧ cellZ t k row col < (al (k + 1) : Nat) ∧ cellZ t k row col < 220 := by
  unfold cellZ
  split
  · next h => have := cell_rng hk ht h; omega
  · omega
/-- rows of a table -/
def trows (t : uN) (k : Nat) : Int := t k 3
def tfull (t : uN) (k : Nat) : Int := if tm k ≤ t k 3 then 1 else 0
def thas (t : uN) (k : Nat) (row : Int) : Int := if 0 ≤ row ∧ row < t k 3 then 1 else 0
end
section
/-! a copy of the first cells of one row into another -/
def cpA (f : uF) (a b : Nat) (n : Int) : uF := fun c i => if c = b then (if 0 ≤ i ∧ i < n then f a i else f b i) else f c i
section COPY
variable {p : Program} {l : Launch} {e : Env} {R : Room} {s : State} {m : MethodId} {args : Array Value} {below : List Frame} {meth : Method} {c : Code} {H : Heap} {locs : List Loc} {cells slots : Nat} {Q : State → Prop}
variable {cc : ByteArray} {pc d nL : Nat} {own : String} {ls : Array Slot} {lv : List (Nat × Value)} {rest : List Value} {g : uG} {t : uN} {f : uF}
theorem r_copy (X : uX p d R s m args c cc nL own) (Y : uY g 117 (cX g t f) s H locs) (hl : lv_has ls nL lv) (hd : 1 ≤ d) {idx : Nat} (hlink : Cond.methodLink own idx arraycopyName ∈ T0) {a b : Nat} (ha : kd a = 10) (hb : kd b = 10) {n : Int} (h0 : 0 ≤ n) (h1 : n ≤ (al a : Nat)) (h2 : n ≤ (al b : Nat)) (hr : (rest.map fun v => v.category).sum ≤ 8) (hdg : decode cc pc = .ok (.invokestatic idx, 3))
    (kk : ∀ (H1 : Heap) (locs1 : List Loc), uY g 117 (cX g t (cpA f a b n)) s H1 locs1 → W p l e R s m args below meth c H1 locs1 cells slots Q (F0 m (pc + 3) ls rest)) : W p l e R s m args below meth c H locs cells slots Q (F0 m pc ls (.int (iV n) :: .int (iV 0) :: .ref (g.1 + b) :: .int (iV 0) :: .ref (g.1 + a) :: rest)) := by
  have hka := kd_lt ha (by decide)
  have hkb := kd_lt hb (by decide)
  have hla := al_le a
  have hlb := al_le b
  intro T hT X0
  have hca : H[g.1 + a]? = some (vp_cell g.2.2.1 (al a, .inl (fun j => iV (f a j)))) := Y.1 a (g.1 + a, .inl (g.2.2.1, al a, .inl (fun j => iV (f a j)))) (by rw [uW_get g.1 _ hka]; show some (g.1 + a, cXk g a (t a) (f a)) = _; rw [cX_10 ha]; rfl)
  have hcb : H[g.1 + b]? = some (vp_cell g.2.2.1 (al b, .inl (fun j => iV (f b j)))) := Y.1 b (g.1 + b, .inl (g.2.2.1, al b, .inl (fun j => iV (f b j)))) (by rw [uW_get g.1 _ hkb]; show some (g.1 + b, cXk g b (t b) (f b)) = _; rw [cX_10 hb]; rfl)
  obtain ⟨-, k0, hk0, cm0, hkk0⟩ := (Y.2.1.2 0 (g.2.2.1, .int) rfl).1 (al a) (fun j => .int (iV (f a j)))
  have nI : ¬ iV n < 0 := by rw [iV_0, iV_lt (by omega) (by decide)]; omega
  have n0 : ¬ iV 0 < 0 := by decide
  have nT : (iV n).toInt = n := iV_toInt (by omega)
  have nC : (iV n).toNatClampNeg = n.toNat := iV_clamp (by omega)
  have zC : (iV 0).toNatClampNeg = 0 := rfl
  obtain ⟨vm', X', step⟩ := X0.arraycopy X.1 X.2.2.2.1 (X.w hlink) (X.w wm_413) (X.w wm_412) (X.w wm_71) (src := g.1 + a) (dst := g.1 + b) (cs := vp_cell g.2.2.1 (al a, .inl (fun j => iV (f a j)))) (cd := vp_cell g.2.2.1 (al b, .inl (fun j => iV (f b j)))) (srcPos := iV 0) (destPos := iV 0) (n := iV n) (by rw [hT]; exact hca) (by rw [hT]; exact hcb)
    (fun _ h => by cases h) (fun _ h => by cases h) (fun h => by cases h) (fun h => by cases h) hk0 hk0 hkk0 hkk0 (by simp [refKind]) n0 n0 nI
    (by rw [nT]; show ¬ (iV 0).toInt + n > ((arrV _ _ _).slots.size : Int); rw [arrV_size, iV_toInt (by decide)]; omega)
    (by rw [nT]; show ¬ (iV 0).toInt + n > ((arrV _ _ _).slots.size : Int); rw [arrV_size, iV_toInt (by decide)]; omega)
    (fun vm₁ _ i hi => by
      rw [nC] at hi
      have q : (vp_cell g.2.2.1 (al a, .inl (fun j => iV (f a j)))).slots.getD ((iV 0).toNatClampNeg + i) .null = .int (iV (f a i)) := by
        show (arrV _ _ (fun j => .int (iV (f a j)))).slots.getD _ _ = _
        rw [zC, Nat.zero_add, Array.getD_eq_getD_getElem?, arrV_read _ _ (by omega)]
        rfl
      refine ⟨?_, ?_⟩
      · rw [q]; rfl
      · rw [q]; exact trivial)
    (g := F0 m pc ls (.int (iV n) :: .int (iV 0) :: .ref (g.1 + b) :: .int (iV 0) :: .ref (g.1 + a) :: rest)) rfl (by rw [X.2.2.1]; exact hl.1) (rest := rest) rfl (by rw [X.2.1]; exact hdg) (by have := X.2.2.2.2.2.1; omega) (by
      have h9 : nativeFrameWords "java/lang/System" "arraycopy" 5 + 11 ≤ 30 := by decide +kernel
      have := X.2.2.2.2.2.2
      show 2 * 0 + _ + _ ≤ _
      omega)
  have e1 : copied (vp_cell g.2.2.1 (al a, .inl (fun j => iV (f a j)))) (vp_cell g.2.2.1 (al b, .inl (fun j => iV (f b j)))) (iV 0) (iV 0) (iV n) = vp_cell g.2.2.1 (al b, .inl (fun j => iV (cpA f a b n b j))) := by
    have q := va_copied (fun z : Int32 => Value.int z) g.2.2.1 g.2.2.1 (n0 := al a) (n1 := al b) (sp := (iV 0).toNatClampNeg) (dp := (iV 0).toNatClampNeg) (n := (iV n).toNatClampNeg) (fun j => iV (f a j)) (fun j => iV (f b j)) (by rw [zC, nC]; omega)
    refine q.trans ?_
    rw [vp_cell_i]
    congr 1
    funext j
    rw [zC, nC]
    show Value.int _ = Value.int _
    congr 1
    simp only [va_cpy, cpA]
    by_cases hj : j < n.toNat
    · have h3 : (j : Int) < n := by omega
      simp [hj, h3]
    · have h3 : ¬ (j : Int) < n := by omega
      simp [hj, h3]
  rw [e1] at X' step
  have hl2 : g.1 + b < H.size := (Array.getElem?_eq_some_iff.mp hcb).1
  generalize hce : vp_cell g.2.2.1 (al b, .inl (fun j => iV (cpA f a b n b j))) = ce at X' step
  have hheap : ((T.setVm vm').setCell (g.1 + b) ce).heap = H.setIfInBounds (g.1 + b) ce := by rw [← hT]; rfl
  have oq : ∀ q : Nat, q ≠ g.1 + b → (H.setIfInBounds (g.1 + b) ce)[q]? = H[q]? := fun q hq => by simp [Array.getElem?_setIfInBounds, Ne.symm hq]
  have Y1 := Y.wr hkb (e := aV g.2.2.1 (al b) (cpA f a b n b)) (H1 := H.setIfInBounds (g.1 + b) ce) 0 (by show (H.setIfInBounds (g.1 + b) ce)[g.1 + b]? = _; rw [← hce]; simp [Array.getElem?_setIfInBounds, hl2]) (by simp) oq
  rw [cX_up t (cpA f a b n) (fun _ _ => rfl) (fun i hi => by funext q; simp [cpA, hi]) (by rw [cX_10 hb])] at Y1
  obtain ⟨z1, z2, z3, z4, z5⟩ := Y1
  obtain ⟨t2, a1, b1⟩ := kk _ _ ⟨z1, z2, z3, ⟨z4.1, z4.2.1, fun q hq => by
      rcases List.mem_append.mp hq with h | h
      · exact Y.2.2.2.1.2.2 q h
      · obtain ⟨z, -, hz⟩ := List.mem_map.mp h
        rw [← hz]
        exact Nat.le_add_right _ _⟩, z5⟩ _ hheap X'
  exact ⟨t2, step t2 a1, b1⟩
end COPY
end
section
/-! the tables: their methods by contract -/
set_option maxHeartbeats 4000000 in
set_option maxRecDepth 100000 in
theorem ct_X5_width (l : Launch) (g : uG) (t : uN) (f : uF) (k : Nat) (hk : kd k = 5)  : cF_i l yX5_width cX5_width 1 (some .int) 1 g [.ref (g.1 + k)] t f (tw k) (t) (f) := by
  refine eF_i (by decide +kernel) (Nat.le_of_ble_eq_true rfl) ?_
  intro p e R s m args below meth c Q ls H locs X Y hl ret
  have X : uX p 1 R s m args c cX5_width 1 RX5 := X
  have hl : lv_has ls 1 [(0, .ref (g.1 + k))] := hl
  refine r_aload_n X dX5_width_0 hl 0 rfl ?_
  refine g_5_0 (k := k) X Y hk wm_89 dX5_width_1 ?_
  exact ret _ _ _ _ _ _ _ dX5_width_4 Y ⟨rfl, rfl, rfl⟩
set_option maxHeartbeats 4000000 in
set_option maxRecDepth 100000 in
theorem ct_X5_rows (l : Launch) (g : uG) (t : uN) (f : uF) (k : Nat) (hk : kd k = 5)  : cF_i l yX5_rows cX5_rows 1 (some .int) 1 g [.ref (g.1 + k)] t f (t k 3) (t) (f) := by
  refine eF_i (by decide +kernel) (Nat.le_of_ble_eq_true rfl) ?_
  intro p e R s m args below meth c Q ls H locs X Y hl ret
  have X : uX p 1 R s m args c cX5_rows 1 RX5 := X
  have hl : lv_has ls 1 [(0, .ref (g.1 + k))] := hl
  refine r_aload_n X dX5_rows_0 hl 0 rfl ?_
  refine g_5_3 (k := k) X Y hk wm_92 dX5_rows_1 ?_
  exact ret _ _ _ _ _ _ _ dX5_rows_4 Y ⟨rfl, rfl, rfl⟩
set_option maxHeartbeats 4000000 in
set_option maxRecDepth 100000 in
theorem ct_X5_has (l : Launch) (g : uG) (t : uN) (f : uF) (k : Nat) (row : Int) (hk : kd k = 5) (ht : tOK t k) (hr : inI row) : cF_i l yX5_has cX5_has 2 (some .boolean) 1 g [.ref (g.1 + k), .int (iV (row))] t f (thas t k row) (t) (f) := by
  refine eF_z (by decide +kernel) (Nat.le_of_ble_eq_true rfl) ?_
  intro p e R s m args below meth c Q ls H locs X Y hl ret
  have X : uX p 1 R s m args c cX5_has 2 RX5 := X
  have hl : lv_has ls 2 [(0, .ref (g.1 + k)), (1, .int (iV (row)))] := hl
  have hw := kd5_w hk
  have hal := kd5_al hk
  have h3 := ht.1
  have h3b := ht.2
  refine r_iload_n X dX5_has_0 hl 1 rfl ?_
  refine r_if_lt X (tgt := 16) dX5_has_1 (by decide) ⟨by omega, by omega⟩ (fun c1 => ?_) (fun c1 => ?_)
  · refine r_iconst X dX5_has_16 ?_
    exact ret _ _ _ _ _ _ _ dX5_has_17 Y (by first | exact Or.inl rfl | exact Or.inr rfl | omega) ⟨by unfold thas; (first | rw [if_pos (by omega)] | rw [if_neg (by omega)]), rfl, rfl⟩
  · refine r_iload_n X dX5_has_4 hl 1 rfl ?_
    refine r_aload_n X dX5_has_5 hl 0 rfl ?_
    refine g_5_3 (k := k) X Y hk wm_92 dX5_has_6 ?_
    refine r_icmp_ge X (tgt := 16) dX5_has_9 (by decide) ⟨by omega, by omega⟩ ⟨by omega, by omega⟩ (fun c9 => ?_) (fun c9 => ?_)
    · refine r_iconst X dX5_has_16 ?_
      exact ret _ _ _ _ _ _ _ dX5_has_17 Y (by first | exact Or.inl rfl | exact Or.inr rfl | omega) ⟨by unfold thas; (first | rw [if_pos (by omega)] | rw [if_neg (by omega)]), rfl, rfl⟩
    · refine r_iconst X dX5_has_12 ?_
      refine r_goto X 17 dX5_has_13 (by decide) ?_
      exact ret _ _ _ _ _ _ _ dX5_has_17 Y (by first | exact Or.inl rfl | exact Or.inr rfl | omega) ⟨by unfold thas; (first | rw [if_pos (by omega)] | rw [if_neg (by omega)]), rfl, rfl⟩
set_option maxHeartbeats 4000000 in
set_option maxRecDepth 100000 in
theorem ct_X5_isFull (l : Launch) (g : uG) (t : uN) (f : uF) (k : Nat) (hk : kd k = 5) (ht : tOK t k) : cF_i l yX5_isFull cX5_isFull 1 (some .boolean) 1 g [.ref (g.1 + k)] t f (tfull t k) (t) (f) := by
  refine eF_z (by decide +kernel) (Nat.le_of_ble_eq_true rfl) ?_
  intro p e R s m args below meth c Q ls H locs X Y hl ret
  have X : uX p 1 R s m args c cX5_isFull 1 RX5 := X
  have hl : lv_has ls 1 [(0, .ref (g.1 + k))] := hl
  have hw := kd5_w hk
  have hal := kd5_al hk
  have h3 := ht.1
  have h3b := ht.2
  refine r_aload_n X dX5_isFull_0 hl 0 rfl ?_
  refine g_5_3 (k := k) X Y hk wm_92 dX5_isFull_1 ?_
  refine r_aload_n X dX5_isFull_4 hl 0 rfl ?_
  refine g_5_1 (k := k) X Y hk wm_90 dX5_isFull_5 ?_
  refine r_icmp_lt X (tgt := 15) dX5_isFull_8 (by decide) ⟨by omega, by omega⟩ ⟨by omega, by omega⟩ (fun c8 => ?_) (fun c8 => ?_)
  · refine r_iconst X dX5_isFull_15 ?_
    exact ret _ _ _ _ _ _ _ dX5_isFull_16 Y (by first | exact Or.inl rfl | exact Or.inr rfl | omega) ⟨by unfold tfull; (first | rw [if_pos (by omega)] | rw [if_neg (by omega)]), rfl, rfl⟩
  · refine r_iconst X dX5_isFull_11 ?_
    refine r_goto X 16 dX5_isFull_12 (by decide) ?_
    exact ret _ _ _ _ _ _ _ dX5_isFull_16 Y (by first | exact Or.inl rfl | exact Or.inr rfl | omega) ⟨by unfold tfull; (first | rw [if_pos (by omega)] | rw [if_neg (by omega)]), rfl, rfl⟩
set_option maxHeartbeats 4000000 in
set_option maxRecDepth 100000 in
theorem ct_X5_clear (l : Launch) (g : uG) (t : uN) (f : uF) (k : Nat) (hk : kd k = 5) : cF_v l yX5_clear cX5_clear 1 1 g [.ref (g.1 + k)] t f (up2 t k 3 0) (f) := by
  refine eF_v (by decide +kernel) (Nat.le_of_ble_eq_true rfl) ?_
  intro p e R s m args below meth c Q ls H locs X Y hl ret
  have X : uX p 1 R s m args c cX5_clear 1 RX5 := X
  have hl : lv_has ls 1 [(0, .ref (g.1 + k))] := hl
  refine r_aload_n X dX5_clear_0 hl 0 rfl ?_
  refine r_iconst X dX5_clear_1 ?_
  refine p_5_3 (k := k) X Y hk wm_92 dX5_clear_2 (fun H locs Y => ?_)
  obtain ⟨tq1, htq1⟩ : ∃ q, q = up2 t k 3 (0) := ⟨_, rfl⟩
  have Y : uY g 117 (cX g tq1 f) s H locs := by rw [htq1]; exact Y
  exact ret _ _ _ _ _ _ dX5_clear_5 Y ⟨htq1, rfl⟩
set_option maxHeartbeats 4000000 in
set_option maxRecDepth 100000 in
theorem ct_X5_cellOf (l : Launch) (g : uG) (t : uN) (f : uF) (k : Nat) (row col : Int) (hk : kd k = 5) (ht : tOK t k) (hr : inI row) (hc : inI col) : cF_i l yX5_cellOf cX5_cellOf 4 (some .int) 1 g [.ref (g.1 + k), .int (iV (row)), .int (iV (col))] t f (cellZ t k row col) (t) (f) := by
  refine eF_i (by decide +kernel) (Nat.le_of_ble_eq_true rfl) ?_
  intro p e R s m args below meth c Q ls H locs X Y hl ret
  have X : uX p 1 R s m args c cX5_cellOf 4 RX5 := X
  have hl : lv_has ls 4 [(0, .ref (g.1 + k)), (1, .int (iV (row))), (2, .int (iV (col)))] := hl
  have hw := kd5_w hk
  have hal := kd5_al hk
  have h3 := ht.1
  have h3b := ht.2
  refine r_iload_n X dX5_cellOf_0 hl 1 rfl ?_
  refine r_if_lt X (tgt := 28) dX5_cellOf_1 (by decide) ⟨by omega, by omega⟩ (fun c1 => ?_) (fun c1 => ?_)
  · refine r_iconst X dX5_cellOf_28 ?_
    refine r_istore_n X dX5_cellOf_29 hl [(3, .int (iV (0))), (0, .ref (g.1 + k)), (1, .int (iV (row))), (2, .int (iV (col)))] (by decide) rfl (fun ls hl => ?_)
    refine r_iload_n X dX5_cellOf_30 hl 0 rfl ?_
    refine r_if_eq X (tgt := 45) dX5_cellOf_31 (by decide) ⟨by omega, by omega⟩ (fun c31 => ?_) (fun c31 => ?_)
    · refine r_iconst X dX5_cellOf_45 ?_
      exact ret _ _ _ _ _ _ _ dX5_cellOf_46 Y ⟨by unfold cellZ; (first | rw [if_pos (by omega)] | rw [if_neg (by omega)]), rfl, rfl⟩
    · exact absurd c31 (by omega)
  · refine r_iload_n X dX5_cellOf_4 hl 1 rfl ?_
    refine r_aload_n X dX5_cellOf_5 hl 0 rfl ?_
    refine g_5_3 (k := k) X Y hk wm_92 dX5_cellOf_6 ?_
    refine r_icmp_ge X (tgt := 28) dX5_cellOf_9 (by decide) ⟨by omega, by omega⟩ ⟨by omega, by omega⟩ (fun c9 => ?_) (fun c9 => ?_)
    · refine r_iconst X dX5_cellOf_28 ?_
      refine r_istore_n X dX5_cellOf_29 hl [(3, .int (iV (0))), (0, .ref (g.1 + k)), (1, .int (iV (row))), (2, .int (iV (col)))] (by decide) rfl (fun ls hl => ?_)
      refine r_iload_n X dX5_cellOf_30 hl 0 rfl ?_
      refine r_if_eq X (tgt := 45) dX5_cellOf_31 (by decide) ⟨by omega, by omega⟩ (fun c31 => ?_) (fun c31 => ?_)
      · refine r_iconst X dX5_cellOf_45 ?_
        exact ret _ _ _ _ _ _ _ dX5_cellOf_46 Y ⟨by unfold cellZ; (first | rw [if_pos (by omega)] | rw [if_neg (by omega)]), rfl, rfl⟩
      · exact absurd c31 (by omega)
    · refine r_iload_n X dX5_cellOf_12 hl 2 rfl ?_
      refine r_if_lt X (tgt := 28) dX5_cellOf_13 (by decide) ⟨by omega, by omega⟩ (fun c13 => ?_) (fun c13 => ?_)
      · refine r_iconst X dX5_cellOf_28 ?_
        refine r_istore_n X dX5_cellOf_29 hl [(3, .int (iV (0))), (0, .ref (g.1 + k)), (1, .int (iV (row))), (2, .int (iV (col)))] (by decide) rfl (fun ls hl => ?_)
        refine r_iload_n X dX5_cellOf_30 hl 0 rfl ?_
        refine r_if_eq X (tgt := 45) dX5_cellOf_31 (by decide) ⟨by omega, by omega⟩ (fun c31 => ?_) (fun c31 => ?_)
        · refine r_iconst X dX5_cellOf_45 ?_
          exact ret _ _ _ _ _ _ _ dX5_cellOf_46 Y ⟨by unfold cellZ; (first | rw [if_pos (by omega)] | rw [if_neg (by omega)]), rfl, rfl⟩
        · exact absurd c31 (by omega)
      · refine r_iload_n X dX5_cellOf_16 hl 2 rfl ?_
        refine r_aload_n X dX5_cellOf_17 hl 0 rfl ?_
        refine g_5_0 (k := k) X Y hk wm_89 dX5_cellOf_18 ?_
        refine r_icmp_ge X (tgt := 28) dX5_cellOf_21 (by decide) ⟨by omega, by omega⟩ ⟨by omega, by omega⟩ (fun c21 => ?_) (fun c21 => ?_)
        · refine r_iconst X dX5_cellOf_28 ?_
          refine r_istore_n X dX5_cellOf_29 hl [(3, .int (iV (0))), (0, .ref (g.1 + k)), (1, .int (iV (row))), (2, .int (iV (col)))] (by decide) rfl (fun ls hl => ?_)
          refine r_iload_n X dX5_cellOf_30 hl 0 rfl ?_
          refine r_if_eq X (tgt := 45) dX5_cellOf_31 (by decide) ⟨by omega, by omega⟩ (fun c31 => ?_) (fun c31 => ?_)
          · refine r_iconst X dX5_cellOf_45 ?_
            exact ret _ _ _ _ _ _ _ dX5_cellOf_46 Y ⟨by unfold cellZ; (first | rw [if_pos (by omega)] | rw [if_neg (by omega)]), rfl, rfl⟩
          · exact absurd c31 (by omega)
        · refine r_iconst X dX5_cellOf_24 ?_
          refine r_goto X 29 dX5_cellOf_25 (by decide) ?_
          refine r_istore_n X dX5_cellOf_29 hl [(3, .int (iV (1))), (0, .ref (g.1 + k)), (1, .int (iV (row))), (2, .int (iV (col)))] (by decide) rfl (fun ls hl => ?_)
          refine r_iload_n X dX5_cellOf_30 hl 0 rfl ?_
          refine r_if_eq X (tgt := 45) dX5_cellOf_31 (by decide) ⟨by omega, by omega⟩ (fun c31 => ?_) (fun c31 => ?_)
          · exact absurd c31 (by omega)
          · refine r_iload_n X dX5_cellOf_34 hl 2 rfl ?_
            refine r_aload_n X dX5_cellOf_35 hl 1 rfl ?_
            refine g_5_0 (k := k) X Y hk wm_89 dX5_cellOf_36 ?_
            refine r_imul X dX5_cellOf_39 ?_
            refine r_iload_n X dX5_cellOf_40 hl 3 rfl ?_
            refine r_iadd X dX5_cellOf_41 ?_
            refine r_goto X 46 dX5_cellOf_42 (by decide) ?_
            exact ret _ _ _ _ _ _ _ dX5_cellOf_46 Y ⟨by unfold cellZ; (first | rw [if_pos (by omega)] | rw [if_neg (by omega)]), rfl, rfl⟩
set_option maxHeartbeats 4000000 in
set_option maxRecDepth 100000 in
theorem ct_X5_get (l : Launch) (g : uG) (t : uN) (f : uF) (k : Nat) (row col : Int) (hk : kd k = 5) (ht : tOK t k) (hr : inI row) (hc : inI col) : cF_i l yX5_get cX5_get 4 (some .int) 2 g [.ref (g.1 + k), .int (iV (row)), .int (iV (col))] t f (tget t f k row col) (t) (f) := by
  refine eF_i (by decide +kernel) (Nat.le_of_ble_eq_true rfl) ?_
  intro p e R s m args below meth c Q ls H locs X Y hl ret
  have X : uX p 2 R s m args c cX5_get 4 RX5 := X
  have hl : lv_has ls 4 [(0, .ref (g.1 + k)), (1, .int (iV (row))), (2, .int (iV (col)))] := hl
  have hw := kd5_w hk
  have hal := kd5_al hk
  have h3 := ht.1
  have h3b := ht.2
  have hz := cellZ_rng hk ht row col
  have hz0 : 0 ≤ cellZ t k row col ↔ 0 ≤ row ∧ row < t k 3 ∧ 0 ≤ col ∧ col < tw k := by
    unfold cellZ
    split
    · next h => exact ⟨fun _ => h, fun _ => (cell_rng hk ht h).1⟩
    · next h => exact ⟨fun q => absurd q (by omega), fun q => absurd q h⟩
  refine r_aload_n X dX5_get_0 hl 0 rfl ?_
  refine r_iload_n X dX5_get_1 hl 1 rfl ?_
  refine r_iload_n X dX5_get_2 hl 2 rfl ?_
  refine vF_i X Y [.int (iV (row)), .int (iV (col))] [] (ct_X5_cellOf l g t f k row col hk (ht) ⟨by omega, by omega⟩ ⟨by omega, by omega⟩) mk_X5_cellOf mi_X5_cellOf wm_316 (by decide) (rv_5 Y hk) rfl hl (Nat.le_of_ble_eq_true rfl) rfl dX5_get_3 (Nat.zero_le _) (Nat.zero_le _) (fun H locs Y => ?_)
  refine r_istore_n X dX5_get_6 hl [(3, .int (iV (cellZ t k row col))), (0, .ref (g.1 + k)), (1, .int (iV (row))), (2, .int (iV (col)))] (by decide) rfl (fun ls hl => ?_)
  refine r_iload_n X dX5_get_7 hl 0 rfl ?_
  refine r_if_lt X (tgt := 29) dX5_get_8 (by decide) ⟨by omega, by omega⟩ (fun c8 => ?_) (fun c8 => ?_)
  · refine r_iconst X dX5_get_29 ?_
    exact ret _ _ _ _ _ _ _ dX5_get_30 Y ⟨by unfold tget; (first | (rw [if_pos (by omega), cellZ, if_pos (by omega)]) | rw [if_neg (by omega)]), rfl, rfl⟩
  · refine r_iload_n X dX5_get_11 hl 0 rfl ?_
    refine r_aload_n X dX5_get_12 hl 1 rfl ?_
    refine g_5_2 (k := k) X Y hk wm_91 dX5_get_13 ?_
    refine g_ilen (k := (k+1)) X Y (kr_5_2 hk) dX5_get_16 ?_
    refine r_icmp_ge X (tgt := 29) dX5_get_17 (by decide) ⟨by omega, by omega⟩ ⟨by omega, by omega⟩ (fun c17 => ?_) (fun c17 => ?_)
    · refine r_iconst X dX5_get_29 ?_
      exact ret _ _ _ _ _ _ _ dX5_get_30 Y ⟨by unfold tget; (first | (rw [if_pos (by omega), cellZ, if_pos (by omega)]) | rw [if_neg (by omega)]), rfl, rfl⟩
    · refine r_aload_n X dX5_get_20 hl 1 rfl ?_
      refine g_5_2 (k := k) X Y hk wm_91 dX5_get_21 ?_
      refine r_iload_n X dX5_get_24 hl 0 rfl ?_
      refine g_ild (k := (k+1)) X Y (kr_5_2 hk) (by omega) (by omega) dX5_get_25 ?_
      refine r_goto X 30 dX5_get_26 (by decide) ?_
      exact ret _ _ _ _ _ _ _ dX5_get_30 Y ⟨by unfold tget; (first | (rw [if_pos (by omega), cellZ, if_pos (by omega)]) | rw [if_neg (by omega)]), rfl, rfl⟩
set_option maxHeartbeats 4000000 in
set_option maxRecDepth 100000 in
theorem ct_X5_set (l : Launch) (g : uG) (t : uN) (f : uF) (k : Nat) (row col v : Int) (hk : kd k = 5) (ht : tOK t k) (hr : inI row) (hc : inI col) : cF_v l yX5_set cX5_set 5 2 g [.ref (g.1 + k), .int (iV (row)), .int (iV (col)), .int (iV (v))] t f (t) (tset t f k row col v) := by
  refine eF_v (by decide +kernel) (Nat.le_of_ble_eq_true rfl) ?_
  intro p e R s m args below meth c Q ls H locs X Y hl ret
  have X : uX p 2 R s m args c cX5_set 5 RX5 := X
  have hl : lv_has ls 5 [(0, .ref (g.1 + k)), (1, .int (iV (row))), (2, .int (iV (col))), (3, .int (iV (v)))] := hl
  have hw := kd5_w hk
  have hal := kd5_al hk
  have h3 := ht.1
  have h3b := ht.2
  have hz := cellZ_rng hk ht row col
  have hz0 : 0 ≤ cellZ t k row col ↔ 0 ≤ row ∧ row < t k 3 ∧ 0 ≤ col ∧ col < tw k := by
    unfold cellZ
    split
    · next h => exact ⟨fun _ => h, fun _ => (cell_rng hk ht h).1⟩
    · next h => exact ⟨fun q => absurd q (by omega), fun q => absurd q h⟩
  refine r_aload_n X dX5_set_0 hl 0 rfl ?_
  refine r_iload_n X dX5_set_1 hl 1 rfl ?_
  refine r_iload_n X dX5_set_2 hl 2 rfl ?_
  refine vF_i X Y [.int (iV (row)), .int (iV (col))] [] (ct_X5_cellOf l g t f k row col hk (ht) ⟨by omega, by omega⟩ ⟨by omega, by omega⟩) mk_X5_cellOf mi_X5_cellOf wm_316 (by decide) (rv_5 Y hk) rfl hl (Nat.le_of_ble_eq_true rfl) rfl dX5_set_3 (Nat.zero_le _) (Nat.zero_le _) (fun H locs Y => ?_)
  refine r_istore X dX5_set_6 hl [(4, .int (iV (cellZ t k row col))), (0, .ref (g.1 + k)), (1, .int (iV (row))), (2, .int (iV (col))), (3, .int (iV (v)))] (by decide) rfl (fun ls hl => ?_)
  refine r_iload X dX5_set_8 hl 0 rfl ?_
  refine r_if_lt X (tgt := 31) dX5_set_10 (by decide) ⟨by omega, by omega⟩ (fun c10 => ?_) (fun c10 => ?_)
  · exact ret _ _ _ _ _ _ dX5_set_31 Y ⟨rfl, by unfold tset; (first | (rw [if_pos (by omega)]; rw [cellZ, if_pos (by omega)] at hfq1; exact hfq1) | rw [if_neg (by omega)])⟩
  · refine r_iload X dX5_set_13 hl 0 rfl ?_
    refine r_aload_n X dX5_set_15 hl 1 rfl ?_
    refine g_5_2 (k := k) X Y hk wm_91 dX5_set_16 ?_
    refine g_ilen (k := (k+1)) X Y (kr_5_2 hk) dX5_set_19 ?_
    refine r_icmp_ge X (tgt := 31) dX5_set_20 (by decide) ⟨by omega, by omega⟩ ⟨by omega, by omega⟩ (fun c20 => ?_) (fun c20 => ?_)
    · exact ret _ _ _ _ _ _ dX5_set_31 Y ⟨rfl, by unfold tset; (first | (rw [if_pos (by omega)]; rw [cellZ, if_pos (by omega)] at hfq1; exact hfq1) | rw [if_neg (by omega)])⟩
    · refine r_aload_n X dX5_set_23 hl 1 rfl ?_
      refine g_5_2 (k := k) X Y hk wm_91 dX5_set_24 ?_
      refine r_iload X dX5_set_27 hl 0 rfl ?_
      refine r_iload_n X dX5_set_29 hl 4 rfl ?_
      refine p_ist (k := (k+1)) X Y (kr_5_2 hk) (by omega) (by omega) dX5_set_30 (fun H locs Y => ?_)
      obtain ⟨fq1, hfq1⟩ : ∃ q, q = upA f (k+1) (cellZ t k row col) v := ⟨_, rfl⟩
      have Y : uY g 117 (cX g t fq1) s H locs := by rw [hfq1]; exact Y
      exact ret _ _ _ _ _ _ dX5_set_31 Y ⟨rfl, by unfold tset; (first | (rw [if_pos (by omega)]; rw [cellZ, if_pos (by omega)] at hfq1; exact hfq1) | rw [if_neg (by omega)])⟩
end
section
/-! sums; what the ship's methods say -/
def sumN (h : Int → Int) (a : Int) : Nat → Int
  | 0 => 0
  | n + 1 => sumN h a n + h (a + n)
def sumR (h : Int → Int) (a b : Int) : Int := sumN h a (b - a).toNat
theorem sumR_nil (h : Int → Int) {a b : Int} (q : b ≤ a) : sumR h a b = 0 := by rw [sumR, show (b - a).toNat = 0 by omega]; rfl
theorem sumR_succ (h : Int → Int) {a b : Int} (q : a ≤ b) : sumR h a (b + 1) = sumR h a b + h b := by
  rw [sumR, show (b + 1 - a).toNat = (b - a).toNat + 1 by omega, sumN, show a + ((b - a).toNat : Nat) = b by omega]; rfl
theorem sum_fin {h : Int → Int} {a b i : Int} (h0 : a ≤ i) (h1 : i ≤ a ∨ i ≤ b) (h2 : b ≤ i) : sumR h a i = sumR h a b := by
  rcases Int.lt_or_le b i with q | q
  · rw [sumR_nil _ (by omega), sumR_nil _ (by omega)]
  · rw [show i = b by omega]
theorem sumN_head (h : Int → Int) (a : Int) (n : Nat) : sumN h a (n + 1) = h a + sumN h (a + 1) n := by
  induction n with
  | zero => simp [sumN]
  | succ n ih =>
    rw [sumN, ih, sumN, show a + 1 + (n : Int) = a + ((n + 1 : Nat) : Int) by omega]; omega
theorem sumR_head (h : Int → Int) {a b : Int} (q : a < b) : sumR h a b = h a + sumR h (a + 1) b := by
  rw [sumR, show (b - a).toNat = (b - (a + 1)).toNat + 1 by omega, sumN_head]; rfl
theorem sumN_rng (h : Int → Int) (a : Int) (M : Int) (n : Nat) (q : ∀ i, a ≤ i → i < a + n → 0 ≤ h i ∧ h i ≤ M) : 0 ≤ sumN h a n ∧ sumN h a n ≤ M * n := by
  induction n with
  | zero => simp [sumN]
  | succ n ih =>
    have h1 := ih (fun i h1 h2 => q i h1 (by omega))
    have h2 := q (a + n) (by omega) (by omega)
    rw [sumN, show ((n + 1 : Nat) : Int) = (n : Int) + 1 by omega, Int.mul_add, Int.mul_one]
    omega
theorem sumR_rng (h : Int → Int) (a b : Int) (M : Int) (hM : 0 ≤ M) (n : Nat) (hn : b - a ≤ n) (q : ∀ i, a ≤ i → i < b → 0 ≤ h i ∧ h i ≤ M) : 0 ≤ sumR h a b ∧ sumR h a b ≤ M * n := by
  have h1 := sumN_rng h a M (b - a).toNat (fun i h1 h2 => q i h1 (by omega))
  refine ⟨h1.1, Int.le_trans h1.2 ?_⟩
  exact Int.mul_le_mul_of_nonneg_left (by omega) hM
theorem sumN_congr {h h2 : Int → Int} (a : Int) (n : Nat) (q : ∀ i, a ≤ i → i < a + n → h i = h2 i) : sumN h a n = sumN h2 a n := by
  induction n with
  | zero => rfl
  | succ n ih => rw [sumN, sumN, ih (fun i h1 h2 => q i h1 (by omega)), q (a + n) (by omega) (by omega)]
theorem sumR_congr {h h2 : Int → Int} {a b : Int} (q : ∀ i, a ≤ i → i < b → h i = h2 i) : sumR h a b = sumR h2 a b := sumN_congr a _ (fun i h1 h2 => q i h1 (by omega))
def topenR (t : uN) (k : Nat) : Int := if tm k ≤ t k 3 then -1 else t k 3
def topenT (t : uN) (k : Nat) : uN := if tm k ≤ t k 3 then t else up2 t k 3 (t k 3 + 1)
theorem topenT_ok {t : uN} {k : Nat} (ht : tOK t k) : tOK (topenT t k) k := by
  unfold topenT
  split
  · exact ht
  · next h => exact ⟨by rw [up2_s]; have := ht.1; omega, by rw [up2_s]; omega⟩
theorem topenR_rng {t : uN} {k : Nat} (hk : kd k = 5) (ht : tOK t k) : -1 ≤ topenR t k ∧ topenR t k ≤ 220 := by
  have := kd5_w hk
  have h := ht
  unfold tOK at h
  unfold topenR
  split <;> omega
/-- a ship's state is within its bounds -/
def SOK (t : uN) (f : uF) (k : Nat) : Prop := tOK t (k + 1) ∧ (0 ≤ t k 1 ∧ t k 1 ≤ 9) ∧ (0 ≤ t k 2 ∧ t k 2 ≤ 10000) ∧ (0 ≤ t k 3 ∧ t k 3 ≤ 7) ∧ (t k 4 = 0 ∨ t k 4 = 1) ∧
  ∀ i, (0 ≤ tget t f (k + 1) i 0 ∧ tget t f (k + 1) i 0 ≤ 4) ∧ (0 ≤ tget t f (k + 1) i 1 ∧ tget t f (k + 1) i 1 ≤ 999) ∧ (0 ≤ tget t f (k + 1) i 2 ∧ tget t f (k + 1) i 2 ≤ 1) ∧ (0 ≤ tget t f (k + 1) i 3 ∧ tget t f (k + 1) i 3 ≤ 2997) ∧ (0 ≤ tget t f (k + 1) i 4 ∧ tget t f (k + 1) i 4 ≤ 7)
theorem SOK.n {t : uN} {f : uF} {k : Nat} (hk : kd k = 4) (h : SOK t f k) : 0 ≤ t (k + 1) 3 ∧ t (k + 1) 3 ≤ 8 := by
  have := h.1
  unfold tOK at this
  rw [(kd4_w hk).2] at this
  exact this
def VOK (t : uN) (f : uF) (v : Nat) : Prop := (tOK t (v + 1) ∧ tOK t (v + 3) ∧ tOK t (v + 5)) ∧
  (∀ i, (0 ≤ tget t f (v + 3) i 0 ∧ tget t f (v + 3) i 0 ≤ 99) ∧ (0 ≤ tget t f (v + 3) i 1 ∧ tget t f (v + 3) i 1 ≤ 9) ∧ (0 ≤ tget t f (v + 3) i 2 ∧ tget t f (v + 3) i 2 ≤ 99)) ∧
  (∀ i, (0 ≤ tget t f (v + 5) i 0 ∧ tget t f (v + 5) i 0 ≤ 999) ∧ (0 ≤ tget t f (v + 5) i 1 ∧ tget t f (v + 5) i 1 ≤ 200)) ∧
  (0 ≤ tget t f (v + 1) 0 0 ∧ tget t f (v + 1) 0 0 ≤ 999) ∧ (0 ≤ tget t f (v + 1) 0 1 ∧ tget t f (v + 1) 0 1 ≤ 999) ∧ (0 ≤ tget t f (v + 1) 0 2 ∧ tget t f (v + 1) 0 2 ≤ 9) ∧ (0 ≤ tget t f (v + 1) 0 3 ∧ tget t f (v + 1) 0 3 ≤ 999)
theorem VOK.n {t : uN} {f : uF} {v : Nat} (hk : kd v = 6) (h : VOK t f v) : (0 ≤ t (v + 1) 3 ∧ t (v + 1) 3 ≤ 1) ∧ (0 ≤ t (v + 3) 3 ∧ t (v + 3) 3 ≤ 7) ∧ (0 ≤ t (v + 5) 3 ∧ t (v + 5) 3 ≤ 5) := by
  have h1 := h.1
  unfold tOK at h1
  rw [(kd6_w hk).1.2, (kd6_w hk).2.1.2, (kd6_w hk).2.2.2] at h1
  omega
def lentX (t : uN) (f : uF) (k : Nat) (m : Int) : Int → Int := fun i => if tget t f (k + 1) i 0 = m then tget t f (k + 1) i 1 else 0
def lentS (t : uN) (f : uF) (k : Nat) (m : Int) : Int := sumR (lentX t f k m) 0 (t (k + 1) 3)
def dueX (t : uN) (f : uF) (k : Nat) (kind : Int) : Int → Int := fun i => if tget t f (k + 1) i 2 = kind then tget t f (k + 1) i 3 else 0
def dueS (t : uN) (f : uF) (k : Nat) (first kind : Int) : Int := sumR (dueX t f k kind) first (t (k + 1) 3)
def cntX (t : uN) (f : uF) (k : Nat) (kind : Int) : Int → Int := fun i => if tget t f (k + 1) i 2 = kind then 1 else 0
def cntS (t : uN) (f : uF) (k : Nat) (first kind : Int) : Int := sumR (cntX t f k kind) first (t (k + 1) 3)
theorem lentX_rng {t : uN} {f : uF} {k : Nat} (h : SOK t f k) (m i : Int) : 0 ≤ lentX t f k m i ∧ lentX t f k m i ≤ 999 := by
  have := h.2.2.2.2.2 i
  unfold lentX
  split <;> omega
theorem dueX_rng {t : uN} {f : uF} {k : Nat} (h : SOK t f k) (m i : Int) : 0 ≤ dueX t f k m i ∧ dueX t f k m i ≤ 2997 := by
  have := h.2.2.2.2.2 i
  unfold dueX
  split <;> omega
theorem cntX_rng (t : uN) (f : uF) (k : Nat) (m i : Int) : 0 ≤ cntX t f k m i ∧ cntX t f k m i ≤ 1 := by
  unfold cntX
  split <;> omega
theorem lentS_rng {t : uN} {f : uF} {k : Nat} (hk : kd k = 4) (h : SOK t f k) (m : Int) : 0 ≤ lentS t f k m ∧ lentS t f k m ≤ 7992 := by
  have := h.n hk
  exact sumR_rng _ _ _ 999 (by omega) 8 (by omega) (fun i _ _ => lentX_rng h m i)
theorem dueS_rng {t : uN} {f : uF} {k : Nat} (hk : kd k = 4) (h : SOK t f k) (first kind : Int) (h0 : 0 ≤ first) : 0 ≤ dueS t f k first kind ∧ dueS t f k first kind ≤ 23976 := by
  have := h.n hk
  exact sumR_rng _ _ _ 2997 (by omega) 8 (by omega) (fun i _ _ => dueX_rng h kind i)
theorem cntS_rng {t : uN} {f : uF} {k : Nat} (hk : kd k = 4) (h : SOK t f k) (first kind : Int) (h0 : 0 ≤ first) : 0 ≤ cntS t f k first kind ∧ cntS t f k first kind ≤ 8 := by
  have := h.n hk
  have q := sumR_rng (cntX t f k kind) first (t (k + 1) 3) 1 (by omega) 8 (by omega) (fun i _ _ => cntX_rng t f k kind i)
  unfold cntS
  omega
def rankS (t : uN) (f : uF) (k : Nat) (i : Int) : Int := (if tget t f (k + 1) i 2 = 0 then cntS t f k 0 1 else 0) + cntS t f k (i + 1) (tget t f (k + 1) i 2)
def paidS (t : uN) (f : uF) (k : Nat) (i sm fm : Int) : Int := max 0 (min ((if tget t f (k + 1) i 2 = 1 then fm else sm) - dueS t f k (i + 1) (tget t f (k + 1) i 2)) (tget t f (k + 1) i 3))
def sailT (t : uN) (k : Nat) (comes : Int) : uN := if comes = 0 then up2 t k 4 1 else up2 (up2 t k 3 (t k 3 + 1)) k 1 (max 0 (t k 1 - 1))
/-- a leg's odds -/
def oddX (t : uN) (f : uF) (v : Nat) (l s : Int) : Int := min 100 (tget t f (v + 3) l 0 + tget t f (v + 3) l 1 * (9 - s))
theorem oddX_rng {t : uN} {f : uF} {v : Nat} (h : VOK t f v) (l s : Int) (h0 : 0 ≤ s) (h1 : s ≤ 9) : 0 ≤ oddX t f v l s ∧ oddX t f v l s ≤ 100 ∧ 0 ≤ tget t f (v + 3) l 1 * (9 - s) ∧ tget t f (v + 3) l 1 * (9 - s) ≤ 81 := by
  have h2 := h.2.1 l
  have m0 : 0 ≤ tget t f (v + 3) l 1 * (9 - s) := Int.mul_nonneg (by omega) (by omega)
  have m1 : tget t f (v + 3) l 1 * (9 - s) ≤ 9 * 9 := Int.mul_le_mul (by omega) (by omega) (by omega) (by omega)
  unfold oddX
  omega
def thruX (o : Int → Int → Int) : Nat → Int → Int → Int → Int
  | 0, _, _, v => v
  | n + 1, l, s, v => thruX o n (l + 1) (max 0 (s - 1)) ((v * (100 - o l s)).tdiv 100)
def thru (o : Int → Int → Int) (a b s v : Int) : Int := thruX o (b - a).toNat a s v
theorem thru_end (o : Int → Int → Int) {a b s v : Int} (h : b ≤ a) : thru o a b s v = v := by rw [thru, show (b - a).toNat = 0 by omega]; rfl
theorem thru_step (o : Int → Int → Int) {a b s v : Int} (h : a < b) : thru o a b s v = thru o (a + 1) b (max 0 (s - 1)) ((v * (100 - o a s)).tdiv 100) := by
  rw [thru, show (b - a).toNat = (b - (a + 1)).toNat + 1 by omega]; rfl
theorem step_rng {v o : Int} (h0 : 0 ≤ v) (h1 : v ≤ 1000000) (o0 : 0 ≤ o) (o1 : o ≤ 100) : 0 ≤ v * (100 - o) ∧ v * (100 - o) ≤ 100000000 ∧ 0 ≤ (v * (100 - o)).tdiv 100 ∧ (v * (100 - o)).tdiv 100 ≤ v := by
  have m0 : 0 ≤ v * (100 - o) := Int.mul_nonneg h0 (by omega)
  have m1 : v * (100 - o) ≤ v * 100 := Int.mul_le_mul_of_nonneg_left (by omega) h0
  have e : (v * (100 - o)).tdiv 100 = v * (100 - o) / 100 := Int.tdiv_eq_ediv_of_nonneg m0
  omega
def owedX (t : uN) (f : uF) (v : Nat) (m a : Int) : Int := a + (a * tget t f (v + 5) m 1).tdiv 100
theorem owedX_rng {t : uN} {f : uF} {v : Nat} (h : VOK t f v) (m a : Int) (h0 : 0 ≤ a) (h1 : a ≤ 999) : 0 ≤ a * tget t f (v + 5) m 1 ∧ a * tget t f (v + 5) m 1 ≤ 199800 ∧ a ≤ owedX t f v m a ∧ owedX t f v m a ≤ 2997 := by
  have h2 := h.2.2.1 m
  have m0 : 0 ≤ a * tget t f (v + 5) m 1 := Int.mul_nonneg (by omega) (by omega)
  have m1 : a * tget t f (v + 5) m 1 ≤ 999 * 200 := Int.mul_le_mul (by omega) (by omega) (by omega) (by omega)
  have e : (a * tget t f (v + 5) m 1).tdiv 100 = a * tget t f (v + 5) m 1 / 100 := Int.tdiv_eq_ediv_of_nonneg m0
  unfold owedX
  omega
end
section
/-! tables (open, add, become) and the ship by contract -/
set_option maxHeartbeats 4000000 in
set_option maxRecDepth 100000 in
theorem ct_X5_open (l : Launch) (g : uG) (t : uN) (f : uF) (k : Nat) (hk : kd k = 5) (ht : tOK t k) : cF_i l yX5_open cX5_open 1 (some .int) 2 g [.ref (g.1 + k)] t f (topenR t k) (topenT t k) (f) := by
  refine eF_i (by decide +kernel) (Nat.le_of_ble_eq_true rfl) ?_
  intro p e R s m args below meth c Q ls H locs X Y hl ret
  have X : uX p 2 R s m args c cX5_open 1 RX5 := X
  have hl : lv_has ls 1 [(0, .ref (g.1 + k))] := hl
  have hw := kd5_w hk
  have hal := kd5_al hk
  have h3 := ht.1
  have h3b := ht.2
  have hf0 : tfull t k = 0 ↔ t k 3 < tm k := by unfold tfull; split <;> omega
  have hf1 : 0 ≤ tfull t k ∧ tfull t k ≤ 1 := by unfold tfull; split <;> omega
  refine r_aload_n X dX5_open_0 hl 0 rfl ?_
  refine vF_i X Y [] [] (ct_X5_isFull l g t f k hk (ht)) mk_X5_isFull mi_X5_isFull wm_311 (by decide) (rv_5 Y hk) rfl hl (Nat.le_of_ble_eq_true rfl) rfl dX5_open_1 (Nat.zero_le _) (Nat.zero_le _) (fun H locs Y => ?_)
  refine r_if_eq X (tgt := 9) dX5_open_4 (by decide) ⟨by omega, by omega⟩ (fun c4 => ?_) (fun c4 => ?_)
  · refine r_aload_n X dX5_open_9 hl 0 rfl ?_
    refine r_dup X dX5_open_10 rfl ?_
    refine g_5_3 (k := k) X Y hk wm_92 dX5_open_11 ?_
    refine r_iconst X dX5_open_14 ?_
    refine r_iadd X dX5_open_15 ?_
    refine p_5_3 (k := k) X Y hk wm_92 dX5_open_16 (fun H locs Y => ?_)
    obtain ⟨tq1, htq1⟩ : ∃ q, q = up2 t k 3 ((t k 3) + 1) := ⟨_, rfl⟩
    have Y : uY g 117 (cX g tq1 f) s H locs := by rw [htq1]; exact Y
    refine r_aload_n X dX5_open_19 hl 0 rfl ?_
    refine g_5_3 (k := k) X Y hk wm_92 dX5_open_20 ?_
    refine r_iconst X dX5_open_23 ?_
    refine r_isub X dX5_open_24 ?_
    exact ret _ _ _ _ _ _ _ dX5_open_25 Y ⟨by rw [topenR, if_neg (by omega), htq1, up2_s]; omega, by rw [topenT, if_neg (by omega)]; exact htq1, rfl⟩
  · refine r_iconst X dX5_open_7 ?_
    exact ret _ _ _ _ _ _ _ dX5_open_8 Y ⟨by rw [topenR, if_pos (by omega)], by rw [topenT, if_pos (by omega)], rfl⟩
set_option maxHeartbeats 4000000 in
set_option maxRecDepth 100000 in
theorem ct_X5_add (l : Launch) (g : uG) (t : uN) (f : uF) (k : Nat) (v : Int) (hk : kd k = 5) (ht : tOK t k) : cF_v l yX5_add cX5_add 2 3 g [.ref (g.1 + k), .int (iV (v))] t f (topenT t k) (tset (topenT t k) f k (topenR t k) 0 v) := by
  refine eF_v (by decide +kernel) (Nat.le_of_ble_eq_true rfl) ?_
  intro p e R s m args below meth c Q ls H locs X Y hl ret
  have X : uX p 3 R s m args c cX5_add 2 RX5 := X
  have hl : lv_has ls 2 [(0, .ref (g.1 + k)), (1, .int (iV (v)))] := hl
  have hw := kd5_w hk
  have hal := kd5_al hk
  have h3 := ht.1
  have h3b := ht.2
  have hr := topenR_rng hk ht
  refine r_aload_n X dX5_add_0 hl 0 rfl ?_
  refine r_aload_n X dX5_add_1 hl 0 rfl ?_
  refine vF_i X Y [] [.ref (g.1 + k)] (ct_X5_open l g t f k hk ht) mk_X5_open mi_X5_open wm_307 (by decide) (rv_5 Y hk) rfl hl (Nat.le_of_ble_eq_true rfl) rfl dX5_add_2 (Nat.zero_le _) (Nat.zero_le _) (fun H locs Y => ?_)
  obtain ⟨tq1, htq1⟩ : ∃ q, q = topenT t k := ⟨_, rfl⟩
  have Y : uY g 117 (cX g tq1 f) s H locs := by rw [htq1]; exact Y
  refine r_iconst X dX5_add_5 ?_
  refine r_iload_n X dX5_add_6 hl 1 rfl ?_
  have ht2 : tOK tq1 k := by rw [htq1]; exact topenT_ok ht
  refine vF_v X Y [.int (iV (topenR t k)), .int (iV (0)), .int (iV (v))] [] (ct_X5_set l g tq1 f k (topenR t k) 0 v hk ht2 ⟨by omega, by omega⟩ ⟨by omega, by omega⟩) mk_X5_set mi_X5_set wm_312 (by decide) (rv_5 Y hk) rfl hl (Nat.le_of_ble_eq_true rfl) rfl dX5_add_7 (Nat.zero_le _) (Nat.zero_le _) (fun H locs Y => ?_)
  obtain ⟨fq2, hfq2⟩ : ∃ q, q = tset tq1 f k (topenR t k) 0 v := ⟨_, rfl⟩
  have Y : uY g 117 (cX g tq1 fq2) s H locs := by rw [hfq2]; exact Y
  exact ret _ _ _ _ _ _ dX5_add_10 Y (by subst htq1 hfq2; exact ⟨rfl, rfl⟩)
set_option maxHeartbeats 4000000 in
set_option maxRecDepth 100000 in
theorem ct_X5_become (l : Launch) (g : uG) (t : uN) (f : uF) (k k2 : Nat) (hk : kd k = 5) (ht : tOK t k) (hk2 : kd k2 = 5) (ht2 : tOK t k2) (he1 : tw k = tw k2) (he2 : tm k = tm k2) : cF_v l yX5_become cX5_become 2 2 g [.ref (g.1 + k), .ref (g.1 + k2)] t f (up2 t k 3 (t k2 3)) (cpA f (k2 + 1) (k + 1) (tw k * tm k)) := by
  refine eF_v (by decide +kernel) (Nat.le_of_ble_eq_true rfl) ?_
  intro p e R s m args below meth c Q ls H locs X Y hl ret
  have X : uX p 2 R s m args c cX5_become 2 RX5 := X
  have hl : lv_has ls 2 [(0, .ref (g.1 + k)), (1, .ref (g.1 + k2))] := hl
  have hw := kd5_w hk
  have hal := kd5_al hk
  have h3 := ht.1
  have h3b := ht.2
  have hw2 := kd5_w hk2
  have hal2 := kd5_al hk2
  have h4 := ht2.1
  have h4b := ht2.2
  rw [← he1, ← he2] at hal2
  have hmn : (0 : Int) ≤ tw k * tm k := by omega
  refine r_aload_n X dX5_become_0 hl 0 rfl ?_
  refine r_aload_n X dX5_become_1 hl 1 rfl ?_
  refine g_5_3 (k := k2) X Y hk2 wm_92 dX5_become_2 ?_
  refine r_aload_n X dX5_become_5 hl 0 rfl ?_
  refine g_5_1 (k := k) X Y hk wm_90 dX5_become_6 ?_
  refine r_min X hl (by decide) (Nat.zero_le _) (Nat.zero_le _) wm_410 (Nat.le_of_ble_eq_true rfl) dX5_become_9 ⟨by omega, by omega⟩ ⟨by omega, by omega⟩ ?_
  refine p_5_3 (k := k) X Y hk wm_92 dX5_become_12 (fun H locs Y => ?_)
  obtain ⟨tq1, htq1⟩ : ∃ q, q = up2 t k 3 (min (t k2 3) (tm k)) := ⟨_, rfl⟩
  have Y : uY g 117 (cX g tq1 f) s H locs := by rw [htq1]; exact Y
  refine r_aload_n X dX5_become_15 hl 1 rfl ?_
  refine g_5_2 (k := k2) X Y hk2 wm_91 dX5_become_16 ?_
  refine r_iconst X dX5_become_19 ?_
  refine r_aload_n X dX5_become_20 hl 0 rfl ?_
  refine g_5_2 (k := k) X Y hk wm_91 dX5_become_21 ?_
  refine r_iconst X dX5_become_24 ?_
  refine r_aload_n X dX5_become_25 hl 1 rfl ?_
  refine g_5_2 (k := k2) X Y hk2 wm_91 dX5_become_26 ?_
  refine g_ilen (k := (k2+1)) X Y (kr_5_2 hk2) dX5_become_29 ?_
  refine r_aload_n X dX5_become_30 hl 0 rfl ?_
  refine g_5_2 (k := k) X Y hk wm_91 dX5_become_31 ?_
  refine g_ilen (k := (k+1)) X Y (kr_5_2 hk) dX5_become_34 ?_
  refine r_min X hl (by decide) (Nat.zero_le _) (Nat.zero_le _) wm_410 (Nat.le_of_ble_eq_true rfl) dX5_become_35 ⟨by omega, by omega⟩ ⟨by omega, by omega⟩ ?_
  refine r_copy (a := (k2+1)) (b := (k+1)) X Y hl (by decide) wm_411 (kr_5_2 hk2) (kr_5_2 hk) (by omega) (by omega) (by omega) (Nat.le_of_ble_eq_true rfl) dX5_become_38 (fun H locs Y => ?_)
  obtain ⟨fq2, hfq2⟩ : ∃ q, q = cpA f (k2+1) (k+1) (min (al (k2+1) : Nat) (al (k+1) : Nat)) := ⟨_, rfl⟩
  have Y : uY g 117 (cX g tq1 fq2) s H locs := by rw [hfq2]; exact Y
  exact ret _ _ _ _ _ _ dX5_become_41 Y ⟨by rw [htq1, show min (t k2 3) (tm k) = t k2 3 by omega], by rw [hfq2, show min ((al (k2 + 1) : Nat) : Int) ((al (k + 1) : Nat) : Int) = tw k * tm k by omega]⟩
set_option maxHeartbeats 4000000 in
set_option maxRecDepth 100000 in
theorem ct_X4_lentBy (l : Launch) (g : uG) (t : uN) (f : uF) (k : Nat) (m0 : Int) (hk : kd k = 4) (h : SOK t f k) (hm : inI m0) : cF_i l yX4_lentBy cX4_lentBy 4 (some .int) 3 g [.ref (g.1 + k), .int (iV (m0))] t f (lentS t f k m0) (t) (f) := by
  refine eF_i (by decide +kernel) (Nat.le_of_ble_eq_true rfl) ?_
  intro p e R s m args below meth c Q ls H locs X Y hl ret
  have X : uX p 3 R s m args c cX4_lentBy 4 RX4 := X
  have hl : lv_has ls 4 [(0, .ref (g.1 + k)), (1, .int (iV (m0)))] := hl
  have hn := h.n hk
  have hb := h.2.1
  have hb2 := h.2.2.1
  have hb3 := h.2.2.2.1
  have hb4 := h.2.2.2.2.1
  have hk1 := kr_4_0 hk
  have ht := h.1
  refine r_iconst X dX4_lentBy_0 ?_
  refine r_istore_n X dX4_lentBy_1 hl [(2, .int (iV (0))), (0, .ref (g.1 + k)), (1, .int (iV (m0)))] (by decide) rfl (fun ls hl => ?_)
  refine r_iconst X dX4_lentBy_2 ?_
  refine r_istore_n X dX4_lentBy_3 hl [(3, .int (iV (0))), (2, .int (iV (0))), (0, .ref (g.1 + k)), (1, .int (iV (m0)))] (by decide) rfl (fun ls hl => ?_)
  have loop4 : ∀ (N : Nat) (i : Int) (a : Int) (hi0 : 0 ≤ i) (hi1 : i ≤ 0 ∨ i ≤ t (k + 1) 3) (ha : a = sumR (lentX t f k m0) 0 i) (H : Heap) (locs : List Loc) (ls : Array Slot), ((t (k + 1) 3) - i).toNat < N → uY g 117 (cX g t f) s H locs → lv_has ls 4 [(2, .int (iV (a))), (3, .int (iV (i))), (0, .ref (g.1 + k)), (1, .int (iV (m0)))] → W p l e R s m args below meth c H locs 0 0 Q (F0 m 4 ls []) := by
    intro N
    induction N with
    | zero => intro i a hi0 hi1 ha H locs ls hmu Y hl; exact absurd hmu (Nat.not_lt_zero _)
    | succ N ih =>
      intro i a hi0 hi1 ha H locs ls hmu Y hl
      have hrow := h.2.2.2.2.2 i
      have har := sumR_rng (lentX t f k m0) (0) i 999 (by omega) 8 (by omega) (fun j _ _ => lentX_rng h m0 j)
      rw [← ha] at har
      refine r_iload_n X dX4_lentBy_4 hl 1 rfl ?_
      refine r_aload_n X dX4_lentBy_5 hl 2 rfl ?_
      refine g_4_0 (k := k) X Y hk wm_161 dX4_lentBy_6 ?_
      refine vF_i X Y [] [.int (iV (i))] (ct_X5_rows l g t f (k+1) (kr_4_0 hk)) mk_X5_rows mi_X5_rows wm_449 (by decide) (rv_5 Y (kr_4_0 hk)) rfl hl (Nat.le_of_ble_eq_true rfl) rfl dX4_lentBy_9 (Nat.zero_le _) (Nat.zero_le _) (fun H locs Y => ?_)
      refine r_icmp_ge X (tgt := 50) dX4_lentBy_12 (by decide) ⟨by omega, by omega⟩ ⟨by omega, by omega⟩ (fun c12 => ?_) (fun c12 => ?_)
      · refine r_iload_n X dX4_lentBy_50 hl 0 rfl ?_
        exact ret _ _ _ _ _ _ _ dX4_lentBy_51 Y ⟨by rw [ha]; exact sum_fin hi0 hi1 (by omega), rfl, rfl⟩
      · refine r_iload_n X dX4_lentBy_15 hl 0 rfl ?_
        refine r_aload_n X dX4_lentBy_16 hl 2 rfl ?_
        refine g_4_0 (k := k) X Y hk wm_161 dX4_lentBy_17 ?_
        refine r_iload_n X dX4_lentBy_20 hl 1 rfl ?_
        refine r_iconst X dX4_lentBy_21 ?_
        refine vF_i X Y [.int (iV (i)), .int (iV (0))] [.int (iV (a))] (ct_X5_get l g t f (k+1) i 0 (kr_4_0 hk) h.1 ⟨by omega, by omega⟩ ⟨by omega, by omega⟩) mk_X5_get mi_X5_get wm_419 (by decide) (rv_5 Y (kr_4_0 hk)) rfl hl (Nat.le_of_ble_eq_true rfl) rfl dX4_lentBy_22 (Nat.zero_le _) (Nat.zero_le _) (fun H locs Y => ?_)
        refine r_iload_n X dX4_lentBy_25 hl 3 rfl ?_
        refine r_icmp_ne X (tgt := 41) dX4_lentBy_26 (by decide) ⟨by omega, by omega⟩ ⟨by omega, by omega⟩ (fun c26 => ?_) (fun c26 => ?_)
        · refine r_iconst X dX4_lentBy_41 ?_
          refine r_iadd X dX4_lentBy_42 ?_
          refine r_istore_n X dX4_lentBy_43 hl [(2, .int (iV (a + 0))), (3, .int (iV (i))), (0, .ref (g.1 + k)), (1, .int (iV (m0)))] (by decide) rfl (fun ls hl => ?_)
          refine r_iinc X dX4_lentBy_44 hl 1 rfl [(3, .int (iV (i + 1))), (2, .int (iV (a + 0))), (0, .ref (g.1 + k)), (1, .int (iV (m0)))] (by decide) rfl (fun ls hl => ?_)
          refine r_goto X 4 dX4_lentBy_47 (by decide) ?_
          exact ih (i + 1) (a + 0) (by omega) (by omega) (by rw [sumR_succ _ (by omega), ← ha]; unfold lentX; (first | rw [if_pos (by omega)] | rw [if_neg (by omega)])) _ _ _ (by omega) Y (lv_sub hl [1, 0, 2, 3] rfl)
        · refine r_aload_n X dX4_lentBy_29 hl 2 rfl ?_
          refine g_4_0 (k := k) X Y hk wm_161 dX4_lentBy_30 ?_
          refine r_iload_n X dX4_lentBy_33 hl 1 rfl ?_
          refine r_iconst X dX4_lentBy_34 ?_
          refine vF_i X Y [.int (iV (i)), .int (iV (1))] [.int (iV (a))] (ct_X5_get l g t f (k+1) i 1 (kr_4_0 hk) h.1 ⟨by omega, by omega⟩ ⟨by omega, by omega⟩) mk_X5_get mi_X5_get wm_419 (by decide) (rv_5 Y (kr_4_0 hk)) rfl hl (Nat.le_of_ble_eq_true rfl) rfl dX4_lentBy_35 (Nat.zero_le _) (Nat.zero_le _) (fun H locs Y => ?_)
          refine r_goto X 42 dX4_lentBy_38 (by decide) ?_
          refine r_iadd X dX4_lentBy_42 ?_
          refine r_istore_n X dX4_lentBy_43 hl [(2, .int (iV (a + (tget t f (k+1) i 1)))), (3, .int (iV (i))), (0, .ref (g.1 + k)), (1, .int (iV (m0)))] (by decide) rfl (fun ls hl => ?_)
          refine r_iinc X dX4_lentBy_44 hl 1 rfl [(3, .int (iV (i + 1))), (2, .int (iV (a + (tget t f (k+1) i 1)))), (0, .ref (g.1 + k)), (1, .int (iV (m0)))] (by decide) rfl (fun ls hl => ?_)
          refine r_goto X 4 dX4_lentBy_47 (by decide) ?_
          exact ih (i + 1) (a + (tget t f (k+1) i 1)) (by omega) (by omega) (by rw [sumR_succ _ (by omega), ← ha]; unfold lentX; (first | rw [if_pos (by omega)] | rw [if_neg (by omega)])) _ _ _ (by omega) Y (lv_sub hl [1, 0, 2, 3] rfl)
  exact loop4 ((((t (k + 1) 3) - (0)).toNat) + 1) 0 0 (by omega) (by omega) (sumR_nil _ (by omega)).symm _ _ _ (Nat.lt_succ_self _) Y (lv_sub hl [1, 0, 2, 3] rfl)
set_option maxHeartbeats 4000000 in
set_option maxRecDepth 100000 in
theorem ct_X4_dueFrom (l : Launch) (g : uG) (t : uN) (f : uF) (k : Nat) (first kind : Int) (hk : kd k = 4) (h : SOK t f k) (h0 : 0 ≤ first) (h1 : first ≤ 8) (h2 : inI kind) : cF_i l yX4_dueFrom cX4_dueFrom 5 (some .int) 3 g [.ref (g.1 + k), .int (iV (first)), .int (iV (kind))] t f (dueS t f k first kind) (t) (f) := by
  refine eF_i (by decide +kernel) (Nat.le_of_ble_eq_true rfl) ?_
  intro p e R s m args below meth c Q ls H locs X Y hl ret
  have X : uX p 3 R s m args c cX4_dueFrom 5 RX4 := X
  have hl : lv_has ls 5 [(0, .ref (g.1 + k)), (1, .int (iV (first))), (2, .int (iV (kind)))] := hl
  have hn := h.n hk
  have hb := h.2.1
  have hb2 := h.2.2.1
  have hb3 := h.2.2.2.1
  have hb4 := h.2.2.2.2.1
  have hk1 := kr_4_0 hk
  have ht := h.1
  refine r_iconst X dX4_dueFrom_0 ?_
  refine r_istore_n X dX4_dueFrom_1 hl [(3, .int (iV (0))), (0, .ref (g.1 + k)), (1, .int (iV (first))), (2, .int (iV (kind)))] (by decide) rfl (fun ls hl => ?_)
  refine r_iload_n X dX4_dueFrom_2 hl 2 rfl ?_
  refine r_istore X dX4_dueFrom_3 hl [(4, .int (iV (first))), (3, .int (iV (0))), (0, .ref (g.1 + k)), (1, .int (iV (first))), (2, .int (iV (kind)))] (by decide) rfl (fun ls hl => ?_)
  have loop5 : ∀ (N : Nat) (i : Int) (a : Int) (hi0 : first ≤ i) (hi1 : i ≤ first ∨ i ≤ t (k + 1) 3) (ha : a = sumR (dueX t f k kind) first i) (H : Heap) (locs : List Loc) (ls : Array Slot), ((t (k + 1) 3) - i).toNat < N → uY g 117 (cX g t f) s H locs → lv_has ls 5 [(3, .int (iV (a))), (4, .int (iV (i))), (0, .ref (g.1 + k)), (2, .int (iV (kind)))] → W p l e R s m args below meth c H locs 0 0 Q (F0 m 5 ls []) := by
    intro N
    induction N with
    | zero => intro i a hi0 hi1 ha H locs ls hmu Y hl; exact absurd hmu (Nat.not_lt_zero _)
    | succ N ih =>
      intro i a hi0 hi1 ha H locs ls hmu Y hl
      have hrow := h.2.2.2.2.2 i
      have har := sumR_rng (dueX t f k kind) (first) i 2997 (by omega) 8 (by omega) (fun j _ _ => dueX_rng h kind j)
      rw [← ha] at har
      refine r_iload X dX4_dueFrom_5 hl 1 rfl ?_
      refine r_aload_n X dX4_dueFrom_7 hl 2 rfl ?_
      refine g_4_0 (k := k) X Y hk wm_161 dX4_dueFrom_8 ?_
      refine vF_i X Y [] [.int (iV (i))] (ct_X5_rows l g t f (k+1) (kr_4_0 hk)) mk_X5_rows mi_X5_rows wm_449 (by decide) (rv_5 Y (kr_4_0 hk)) rfl hl (Nat.le_of_ble_eq_true rfl) rfl dX4_dueFrom_11 (Nat.zero_le _) (Nat.zero_le _) (fun H locs Y => ?_)
      refine r_icmp_ge X (tgt := 54) dX4_dueFrom_14 (by decide) ⟨by omega, by omega⟩ ⟨by omega, by omega⟩ (fun c14 => ?_) (fun c14 => ?_)
      · refine r_iload_n X dX4_dueFrom_54 hl 0 rfl ?_
        exact ret _ _ _ _ _ _ _ dX4_dueFrom_55 Y ⟨by rw [ha]; exact sum_fin hi0 hi1 (by omega), rfl, rfl⟩
      · refine r_iload_n X dX4_dueFrom_17 hl 0 rfl ?_
        refine r_aload_n X dX4_dueFrom_18 hl 2 rfl ?_
        refine g_4_0 (k := k) X Y hk wm_161 dX4_dueFrom_19 ?_
        refine r_iload X dX4_dueFrom_22 hl 1 rfl ?_
        refine r_iconst X dX4_dueFrom_24 ?_
        refine vF_i X Y [.int (iV (i)), .int (iV (2))] [.int (iV (a))] (ct_X5_get l g t f (k+1) i 2 (kr_4_0 hk) h.1 ⟨by omega, by omega⟩ ⟨by omega, by omega⟩) mk_X5_get mi_X5_get wm_419 (by decide) (rv_5 Y (kr_4_0 hk)) rfl hl (Nat.le_of_ble_eq_true rfl) rfl dX4_dueFrom_25 (Nat.zero_le _) (Nat.zero_le _) (fun H locs Y => ?_)
        refine r_iload_n X dX4_dueFrom_28 hl 3 rfl ?_
        refine r_icmp_ne X (tgt := 45) dX4_dueFrom_29 (by decide) ⟨by omega, by omega⟩ ⟨by omega, by omega⟩ (fun c29 => ?_) (fun c29 => ?_)
        · refine r_iconst X dX4_dueFrom_45 ?_
          refine r_iadd X dX4_dueFrom_46 ?_
          refine r_istore_n X dX4_dueFrom_47 hl [(3, .int (iV (a + 0))), (4, .int (iV (i))), (0, .ref (g.1 + k)), (2, .int (iV (kind)))] (by decide) rfl (fun ls hl => ?_)
          refine r_iinc X dX4_dueFrom_48 hl 1 rfl [(4, .int (iV (i + 1))), (3, .int (iV (a + 0))), (0, .ref (g.1 + k)), (2, .int (iV (kind)))] (by decide) rfl (fun ls hl => ?_)
          refine r_goto X 5 dX4_dueFrom_51 (by decide) ?_
          exact ih (i + 1) (a + 0) (by omega) (by omega) (by rw [sumR_succ _ (by omega), ← ha]; unfold dueX; (first | rw [if_pos (by omega)] | rw [if_neg (by omega)])) _ _ _ (by omega) Y (lv_sub hl [1, 0, 2, 3] rfl)
        · refine r_aload_n X dX4_dueFrom_32 hl 2 rfl ?_
          refine g_4_0 (k := k) X Y hk wm_161 dX4_dueFrom_33 ?_
          refine r_iload X dX4_dueFrom_36 hl 1 rfl ?_
          refine r_iconst X dX4_dueFrom_38 ?_
          refine vF_i X Y [.int (iV (i)), .int (iV (3))] [.int (iV (a))] (ct_X5_get l g t f (k+1) i 3 (kr_4_0 hk) h.1 ⟨by omega, by omega⟩ ⟨by omega, by omega⟩) mk_X5_get mi_X5_get wm_419 (by decide) (rv_5 Y (kr_4_0 hk)) rfl hl (Nat.le_of_ble_eq_true rfl) rfl dX4_dueFrom_39 (Nat.zero_le _) (Nat.zero_le _) (fun H locs Y => ?_)
          refine r_goto X 46 dX4_dueFrom_42 (by decide) ?_
          refine r_iadd X dX4_dueFrom_46 ?_
          refine r_istore_n X dX4_dueFrom_47 hl [(3, .int (iV (a + (tget t f (k+1) i 3)))), (4, .int (iV (i))), (0, .ref (g.1 + k)), (2, .int (iV (kind)))] (by decide) rfl (fun ls hl => ?_)
          refine r_iinc X dX4_dueFrom_48 hl 1 rfl [(4, .int (iV (i + 1))), (3, .int (iV (a + (tget t f (k+1) i 3)))), (0, .ref (g.1 + k)), (2, .int (iV (kind)))] (by decide) rfl (fun ls hl => ?_)
          refine r_goto X 5 dX4_dueFrom_51 (by decide) ?_
          exact ih (i + 1) (a + (tget t f (k+1) i 3)) (by omega) (by omega) (by rw [sumR_succ _ (by omega), ← ha]; unfold dueX; (first | rw [if_pos (by omega)] | rw [if_neg (by omega)])) _ _ _ (by omega) Y (lv_sub hl [1, 0, 2, 3] rfl)
  exact loop5 ((((t (k + 1) 3) - (first)).toNat) + 1) first 0 (by omega) (by omega) (sumR_nil _ (by omega)).symm _ _ _ (Nat.lt_succ_self _) Y (lv_sub hl [1, 0, 2, 4] rfl)
set_option maxHeartbeats 4000000 in
set_option maxRecDepth 100000 in
theorem ct_X4_countFrom (l : Launch) (g : uG) (t : uN) (f : uF) (k : Nat) (first kind : Int) (hk : kd k = 4) (h : SOK t f k) (h0 : 0 ≤ first) (h1 : first ≤ 8) (h2 : inI kind) : cF_i l yX4_countFrom cX4_countFrom 5 (some .int) 3 g [.ref (g.1 + k), .int (iV (first)), .int (iV (kind))] t f (cntS t f k first kind) (t) (f) := by
  refine eF_i (by decide +kernel) (Nat.le_of_ble_eq_true rfl) ?_
  intro p e R s m args below meth c Q ls H locs X Y hl ret
  have X : uX p 3 R s m args c cX4_countFrom 5 RX4 := X
  have hl : lv_has ls 5 [(0, .ref (g.1 + k)), (1, .int (iV (first))), (2, .int (iV (kind)))] := hl
  have hn := h.n hk
  have hb := h.2.1
  have hb2 := h.2.2.1
  have hb3 := h.2.2.2.1
  have hb4 := h.2.2.2.2.1
  have hk1 := kr_4_0 hk
  have ht := h.1
  refine r_iconst X dX4_countFrom_0 ?_
  refine r_istore_n X dX4_countFrom_1 hl [(3, .int (iV (0))), (0, .ref (g.1 + k)), (1, .int (iV (first))), (2, .int (iV (kind)))] (by decide) rfl (fun ls hl => ?_)
  refine r_iload_n X dX4_countFrom_2 hl 2 rfl ?_
  refine r_istore X dX4_countFrom_3 hl [(4, .int (iV (first))), (3, .int (iV (0))), (0, .ref (g.1 + k)), (1, .int (iV (first))), (2, .int (iV (kind)))] (by decide) rfl (fun ls hl => ?_)
  have loop5 : ∀ (N : Nat) (i : Int) (a : Int) (hi0 : first ≤ i) (hi1 : i ≤ first ∨ i ≤ t (k + 1) 3) (ha : a = sumR (cntX t f k kind) first i) (H : Heap) (locs : List Loc) (ls : Array Slot), ((t (k + 1) 3) - i).toNat < N → uY g 117 (cX g t f) s H locs → lv_has ls 5 [(3, .int (iV (a))), (4, .int (iV (i))), (0, .ref (g.1 + k)), (2, .int (iV (kind)))] → W p l e R s m args below meth c H locs 0 0 Q (F0 m 5 ls []) := by
    intro N
    induction N with
    | zero => intro i a hi0 hi1 ha H locs ls hmu Y hl; exact absurd hmu (Nat.not_lt_zero _)
    | succ N ih =>
      intro i a hi0 hi1 ha H locs ls hmu Y hl
      have hrow := h.2.2.2.2.2 i
      have har := sumR_rng (cntX t f k kind) (first) i 1 (by omega) 8 (by omega) (fun j _ _ => cntX_rng t f k kind j)
      rw [← ha] at har
      refine r_iload X dX4_countFrom_5 hl 1 rfl ?_
      refine r_aload_n X dX4_countFrom_7 hl 2 rfl ?_
      refine g_4_0 (k := k) X Y hk wm_161 dX4_countFrom_8 ?_
      refine vF_i X Y [] [.int (iV (i))] (ct_X5_rows l g t f (k+1) (kr_4_0 hk)) mk_X5_rows mi_X5_rows wm_449 (by decide) (rv_5 Y (kr_4_0 hk)) rfl hl (Nat.le_of_ble_eq_true rfl) rfl dX4_countFrom_11 (Nat.zero_le _) (Nat.zero_le _) (fun H locs Y => ?_)
      refine r_icmp_ge X (tgt := 45) dX4_countFrom_14 (by decide) ⟨by omega, by omega⟩ ⟨by omega, by omega⟩ (fun c14 => ?_) (fun c14 => ?_)
      · refine r_iload_n X dX4_countFrom_45 hl 0 rfl ?_
        exact ret _ _ _ _ _ _ _ dX4_countFrom_46 Y ⟨by rw [ha]; exact sum_fin hi0 hi1 (by omega), rfl, rfl⟩
      · refine r_iload_n X dX4_countFrom_17 hl 0 rfl ?_
        refine r_aload_n X dX4_countFrom_18 hl 2 rfl ?_
        refine g_4_0 (k := k) X Y hk wm_161 dX4_countFrom_19 ?_
        refine r_iload X dX4_countFrom_22 hl 1 rfl ?_
        refine r_iconst X dX4_countFrom_24 ?_
        refine vF_i X Y [.int (iV (i)), .int (iV (2))] [.int (iV (a))] (ct_X5_get l g t f (k+1) i 2 (kr_4_0 hk) h.1 ⟨by omega, by omega⟩ ⟨by omega, by omega⟩) mk_X5_get mi_X5_get wm_419 (by decide) (rv_5 Y (kr_4_0 hk)) rfl hl (Nat.le_of_ble_eq_true rfl) rfl dX4_countFrom_25 (Nat.zero_le _) (Nat.zero_le _) (fun H locs Y => ?_)
        refine r_iload_n X dX4_countFrom_28 hl 3 rfl ?_
        refine r_icmp_ne X (tgt := 36) dX4_countFrom_29 (by decide) ⟨by omega, by omega⟩ ⟨by omega, by omega⟩ (fun c29 => ?_) (fun c29 => ?_)
        · refine r_iconst X dX4_countFrom_36 ?_
          refine r_iadd X dX4_countFrom_37 ?_
          refine r_istore_n X dX4_countFrom_38 hl [(3, .int (iV (a + 0))), (4, .int (iV (i))), (0, .ref (g.1 + k)), (2, .int (iV (kind)))] (by decide) rfl (fun ls hl => ?_)
          refine r_iinc X dX4_countFrom_39 hl 1 rfl [(4, .int (iV (i + 1))), (3, .int (iV (a + 0))), (0, .ref (g.1 + k)), (2, .int (iV (kind)))] (by decide) rfl (fun ls hl => ?_)
          refine r_goto X 5 dX4_countFrom_42 (by decide) ?_
          exact ih (i + 1) (a + 0) (by omega) (by omega) (by rw [sumR_succ _ (by omega), ← ha]; unfold cntX; (first | rw [if_pos (by omega)] | rw [if_neg (by omega)])) _ _ _ (by omega) Y (lv_sub hl [1, 0, 2, 3] rfl)
        · refine r_iconst X dX4_countFrom_32 ?_
          refine r_goto X 37 dX4_countFrom_33 (by decide) ?_
          refine r_iadd X dX4_countFrom_37 ?_
          refine r_istore_n X dX4_countFrom_38 hl [(3, .int (iV (a + 1))), (4, .int (iV (i))), (0, .ref (g.1 + k)), (2, .int (iV (kind)))] (by decide) rfl (fun ls hl => ?_)
          refine r_iinc X dX4_countFrom_39 hl 1 rfl [(4, .int (iV (i + 1))), (3, .int (iV (a + 1))), (0, .ref (g.1 + k)), (2, .int (iV (kind)))] (by decide) rfl (fun ls hl => ?_)
          refine r_goto X 5 dX4_countFrom_42 (by decide) ?_
          exact ih (i + 1) (a + 1) (by omega) (by omega) (by rw [sumR_succ _ (by omega), ← ha]; unfold cntX; (first | rw [if_pos (by omega)] | rw [if_neg (by omega)])) _ _ _ (by omega) Y (lv_sub hl [1, 0, 2, 3] rfl)
  exact loop5 ((((t (k + 1) 3) - (first)).toNat) + 1) first 0 (by omega) (by omega) (sumR_nil _ (by omega)).symm _ _ _ (Nat.lt_succ_self _) Y (lv_sub hl [1, 0, 2, 4] rfl)
set_option maxHeartbeats 4000000 in
set_option maxRecDepth 100000 in
theorem ct_X4_rankOf (l : Launch) (g : uG) (t : uN) (f : uF) (k : Nat) (i : Int) (hk : kd k = 4) (h : SOK t f k) (h0 : 0 ≤ i) (h1 : i < t (k + 1) 3) : cF_i l yX4_rankOf cX4_rankOf 4 (some .int) 4 g [.ref (g.1 + k), .int (iV (i))] t f (rankS t f k i) (t) (f) := by
  refine eF_i (by decide +kernel) (Nat.le_of_ble_eq_true rfl) ?_
  intro p e R s m args below meth c Q ls H locs X Y hl ret
  have X : uX p 4 R s m args c cX4_rankOf 4 RX4 := X
  have hl : lv_has ls 4 [(0, .ref (g.1 + k)), (1, .int (iV (i)))] := hl
  have hn := h.n hk
  have hb := h.2.1
  have hb2 := h.2.2.1
  have hb3 := h.2.2.2.1
  have hb4 := h.2.2.2.2.1
  have hk1 := kr_4_0 hk
  have ht := h.1
  have hrow := h.2.2.2.2.2 i
  refine r_aload_n X dX4_rankOf_0 hl 0 rfl ?_
  refine g_4_0 (k := k) X Y hk wm_161 dX4_rankOf_1 ?_
  refine r_iload_n X dX4_rankOf_4 hl 1 rfl ?_
  refine r_iconst X dX4_rankOf_5 ?_
  refine vF_i X Y [.int (iV (i)), .int (iV (2))] [] (ct_X5_get l g t f (k+1) i 2 (kr_4_0 hk) h.1 ⟨by omega, by omega⟩ ⟨by omega, by omega⟩) mk_X5_get mi_X5_get wm_419 (by decide) (rv_5 Y (kr_4_0 hk)) rfl hl (Nat.le_of_ble_eq_true rfl) rfl dX4_rankOf_6 (Nat.zero_le _) (Nat.zero_le _) (fun H locs Y => ?_)
  refine r_istore_n X dX4_rankOf_9 hl [(2, .int (iV (tget t f (k+1) i 2))), (0, .ref (g.1 + k)), (1, .int (iV (i)))] (by decide) rfl (fun ls hl => ?_)
  refine r_iload_n X dX4_rankOf_10 hl 0 rfl ?_
  refine r_if_ne X (tgt := 23) dX4_rankOf_11 (by decide) ⟨by omega, by omega⟩ (fun c11 => ?_) (fun c11 => ?_)
  · refine r_iconst X dX4_rankOf_23 ?_
    refine r_istore_n X dX4_rankOf_24 hl [(3, .int (iV (0))), (2, .int (iV (tget t f (k+1) i 2))), (0, .ref (g.1 + k)), (1, .int (iV (i)))] (by decide) rfl (fun ls hl => ?_)
    refine r_iload_n X dX4_rankOf_25 hl 0 rfl ?_
    refine r_aload_n X dX4_rankOf_26 hl 2 rfl ?_
    refine r_iload_n X dX4_rankOf_27 hl 3 rfl ?_
    refine r_iconst X dX4_rankOf_28 ?_
    refine r_iadd X dX4_rankOf_29 ?_
    refine r_iload_n X dX4_rankOf_30 hl 1 rfl ?_
    refine vF_i X Y [.int (iV (i + 1)), .int (iV (tget t f (k+1) i 2))] [.int (iV (0))] (ct_X4_countFrom l g t f k (i + 1) (tget t f (k+1) i 2) hk h (by omega) (by omega) ⟨by omega, by omega⟩) mk_X4_countFrom mi_X4_countFrom wm_498 (by decide) (rv_4 Y hk) rfl hl (Nat.le_of_ble_eq_true rfl) rfl dX4_rankOf_31 (Nat.zero_le _) (Nat.zero_le _) (fun H locs Y => ?_)
    refine r_iadd X dX4_rankOf_34 ?_
    exact ret _ _ _ _ _ _ _ dX4_rankOf_35 Y ⟨by unfold rankS; (first | rw [if_pos (by omega)] | rw [if_neg (by omega)]), rfl, rfl⟩
  · refine r_aload_n X dX4_rankOf_14 hl 1 rfl ?_
    refine r_iconst X dX4_rankOf_15 ?_
    refine r_iconst X dX4_rankOf_16 ?_
    refine vF_i X Y [.int (iV (0)), .int (iV (1))] [] (ct_X4_countFrom l g t f k 0 1 hk h (by omega) (by omega) ⟨by omega, by omega⟩) mk_X4_countFrom mi_X4_countFrom wm_498 (by decide) (rv_4 Y hk) rfl hl (Nat.le_of_ble_eq_true rfl) rfl dX4_rankOf_17 (Nat.zero_le _) (Nat.zero_le _) (fun H locs Y => ?_)
    refine r_goto X 24 dX4_rankOf_20 (by decide) ?_
    refine r_istore_n X dX4_rankOf_24 hl [(3, .int (iV (cntS t f k 0 1))), (2, .int (iV (tget t f (k+1) i 2))), (0, .ref (g.1 + k)), (1, .int (iV (i)))] (by decide) rfl (fun ls hl => ?_)
    refine r_iload_n X dX4_rankOf_25 hl 0 rfl ?_
    refine r_aload_n X dX4_rankOf_26 hl 2 rfl ?_
    refine r_iload_n X dX4_rankOf_27 hl 3 rfl ?_
    refine r_iconst X dX4_rankOf_28 ?_
    refine r_iadd X dX4_rankOf_29 ?_
    refine r_iload_n X dX4_rankOf_30 hl 1 rfl ?_
    refine vF_i X Y [.int (iV (i + 1)), .int (iV (tget t f (k+1) i 2))] [.int (iV (cntS t f k 0 1))] (ct_X4_countFrom l g t f k (i + 1) (tget t f (k+1) i 2) hk h (by omega) (by omega) ⟨by omega, by omega⟩) mk_X4_countFrom mi_X4_countFrom wm_498 (by decide) (rv_4 Y hk) rfl hl (Nat.le_of_ble_eq_true rfl) rfl dX4_rankOf_31 (Nat.zero_le _) (Nat.zero_le _) (fun H locs Y => ?_)
    refine r_iadd X dX4_rankOf_34 ?_
    exact ret _ _ _ _ _ _ _ dX4_rankOf_35 Y ⟨by unfold rankS; (first | rw [if_pos (by omega)] | rw [if_neg (by omega)]), rfl, rfl⟩
set_option maxHeartbeats 4000000 in
set_option maxRecDepth 100000 in
theorem ct_X4_paidOf (l : Launch) (g : uG) (t : uN) (f : uF) (k : Nat) (i sm fm : Int) (hk : kd k = 4) (h : SOK t f k) (h0 : 0 ≤ i) (h1 : i < t (k + 1) 3) (h2 : -1000000 ≤ sm ∧ sm ≤ 1000000) (h3 : -1000000 ≤ fm ∧ fm ≤ 1000000) : cF_i l yX4_paidOf cX4_paidOf 7 (some .int) 4 g [.ref (g.1 + k), .int (iV (i)), .int (iV (sm)), .int (iV (fm))] t f (paidS t f k i sm fm) (t) (f) := by
  refine eF_i (by decide +kernel) (Nat.le_of_ble_eq_true rfl) ?_
  intro p e R s m args below meth c Q ls H locs X Y hl ret
  have X : uX p 4 R s m args c cX4_paidOf 7 RX4 := X
  have hl : lv_has ls 7 [(0, .ref (g.1 + k)), (1, .int (iV (i))), (2, .int (iV (sm))), (3, .int (iV (fm)))] := hl
  have hn := h.n hk
  have hb := h.2.1
  have hb2 := h.2.2.1
  have hb3 := h.2.2.2.1
  have hb4 := h.2.2.2.2.1
  have hk1 := kr_4_0 hk
  have ht := h.1
  have hrow := h.2.2.2.2.2 i
  have hds := dueS_rng hk h (i + 1) (tget t f (k + 1) i 2) (by omega)
  refine r_aload_n X dX4_paidOf_0 hl 0 rfl ?_
  refine g_4_0 (k := k) X Y hk wm_161 dX4_paidOf_1 ?_
  refine r_iload_n X dX4_paidOf_4 hl 1 rfl ?_
  refine r_iconst X dX4_paidOf_5 ?_
  refine vF_i X Y [.int (iV (i)), .int (iV (2))] [] (ct_X5_get l g t f (k+1) i 2 (kr_4_0 hk) h.1 ⟨by omega, by omega⟩ ⟨by omega, by omega⟩) mk_X5_get mi_X5_get wm_419 (by decide) (rv_5 Y (kr_4_0 hk)) rfl hl (Nat.le_of_ble_eq_true rfl) rfl dX4_paidOf_6 (Nat.zero_le _) (Nat.zero_le _) (fun H locs Y => ?_)
  refine r_istore X dX4_paidOf_9 hl [(4, .int (iV (tget t f (k+1) i 2))), (0, .ref (g.1 + k)), (1, .int (iV (i))), (2, .int (iV (sm))), (3, .int (iV (fm)))] (by decide) rfl (fun ls hl => ?_)
  refine r_iload X dX4_paidOf_11 hl 0 rfl ?_
  refine r_iconst X dX4_paidOf_13 ?_
  refine r_icmp_ne X (tgt := 21) dX4_paidOf_14 (by decide) ⟨by omega, by omega⟩ ⟨by omega, by omega⟩ (fun c14 => ?_) (fun c14 => ?_)
  · refine r_iload_n X dX4_paidOf_21 hl 3 rfl ?_
    refine r_istore X dX4_paidOf_22 hl [(5, .int (iV (sm))), (4, .int (iV (tget t f (k+1) i 2))), (0, .ref (g.1 + k)), (1, .int (iV (i))), (2, .int (iV (sm))), (3, .int (iV (fm)))] (by decide) rfl (fun ls hl => ?_)
    refine r_iload X dX4_paidOf_24 hl 0 rfl ?_
    refine r_aload_n X dX4_paidOf_26 hl 2 rfl ?_
    refine r_iload_n X dX4_paidOf_27 hl 3 rfl ?_
    refine r_iconst X dX4_paidOf_28 ?_
    refine r_iadd X dX4_paidOf_29 ?_
    refine r_iload X dX4_paidOf_30 hl 1 rfl ?_
    refine vF_i X Y [.int (iV (i + 1)), .int (iV (tget t f (k+1) i 2))] [.int (iV (sm))] (ct_X4_dueFrom l g t f k (i + 1) (tget t f (k+1) i 2) hk h (by omega) (by omega) ⟨by omega, by omega⟩) mk_X4_dueFrom mi_X4_dueFrom wm_612 (by decide) (rv_4 Y hk) rfl hl (Nat.le_of_ble_eq_true rfl) rfl dX4_paidOf_32 (Nat.zero_le _) (Nat.zero_le _) (fun H locs Y => ?_)
    refine r_isub X dX4_paidOf_35 ?_
    refine r_istore X dX4_paidOf_36 hl [(6, .int (iV (sm - (dueS t f k (i + 1) (tget t f (k+1) i 2))))), (5, .int (iV (sm))), (4, .int (iV (tget t f (k+1) i 2))), (0, .ref (g.1 + k)), (1, .int (iV (i))), (2, .int (iV (sm))), (3, .int (iV (fm)))] (by decide) rfl (fun ls hl => ?_)
    refine r_iconst X dX4_paidOf_38 ?_
    refine r_iload X dX4_paidOf_39 hl 0 rfl ?_
    refine r_aload_n X dX4_paidOf_41 hl 3 rfl ?_
    refine g_4_0 (k := k) X Y hk wm_161 dX4_paidOf_42 ?_
    refine r_iload_n X dX4_paidOf_45 hl 4 rfl ?_
    refine r_iconst X dX4_paidOf_46 ?_
    refine vF_i X Y [.int (iV (i)), .int (iV (3))] [.int (iV (sm - (dueS t f k (i + 1) (tget t f (k+1) i 2)))), .int (iV (0))] (ct_X5_get l g t f (k+1) i 3 (kr_4_0 hk) h.1 ⟨by omega, by omega⟩ ⟨by omega, by omega⟩) mk_X5_get mi_X5_get wm_419 (by decide) (rv_5 Y (kr_4_0 hk)) rfl hl (Nat.le_of_ble_eq_true rfl) rfl dX4_paidOf_47 (Nat.zero_le _) (Nat.zero_le _) (fun H locs Y => ?_)
    refine r_min X hl (by decide) (Nat.zero_le _) (Nat.zero_le _) wm_613 (Nat.le_of_ble_eq_true rfl) dX4_paidOf_50 ⟨by omega, by omega⟩ ⟨by omega, by omega⟩ ?_
    refine r_max X hl (by decide) (Nat.zero_le _) (Nat.zero_le _) wm_551 (Nat.le_of_ble_eq_true rfl) dX4_paidOf_53 ⟨by omega, by omega⟩ ⟨by omega, by omega⟩ ?_
    exact ret _ _ _ _ _ _ _ dX4_paidOf_56 Y ⟨by unfold paidS; (first | rw [if_pos (by omega)] | rw [if_neg (by omega)]), rfl, rfl⟩
  · refine r_iload_n X dX4_paidOf_17 hl 4 rfl ?_
    refine r_goto X 22 dX4_paidOf_18 (by decide) ?_
    refine r_istore X dX4_paidOf_22 hl [(5, .int (iV (fm))), (4, .int (iV (tget t f (k+1) i 2))), (0, .ref (g.1 + k)), (1, .int (iV (i))), (2, .int (iV (sm))), (3, .int (iV (fm)))] (by decide) rfl (fun ls hl => ?_)
    refine r_iload X dX4_paidOf_24 hl 0 rfl ?_
    refine r_aload_n X dX4_paidOf_26 hl 2 rfl ?_
    refine r_iload_n X dX4_paidOf_27 hl 3 rfl ?_
    refine r_iconst X dX4_paidOf_28 ?_
    refine r_iadd X dX4_paidOf_29 ?_
    refine r_iload X dX4_paidOf_30 hl 1 rfl ?_
    refine vF_i X Y [.int (iV (i + 1)), .int (iV (tget t f (k+1) i 2))] [.int (iV (fm))] (ct_X4_dueFrom l g t f k (i + 1) (tget t f (k+1) i 2) hk h (by omega) (by omega) ⟨by omega, by omega⟩) mk_X4_dueFrom mi_X4_dueFrom wm_612 (by decide) (rv_4 Y hk) rfl hl (Nat.le_of_ble_eq_true rfl) rfl dX4_paidOf_32 (Nat.zero_le _) (Nat.zero_le _) (fun H locs Y => ?_)
    refine r_isub X dX4_paidOf_35 ?_
    refine r_istore X dX4_paidOf_36 hl [(6, .int (iV (fm - (dueS t f k (i + 1) (tget t f (k+1) i 2))))), (5, .int (iV (fm))), (4, .int (iV (tget t f (k+1) i 2))), (0, .ref (g.1 + k)), (1, .int (iV (i))), (2, .int (iV (sm))), (3, .int (iV (fm)))] (by decide) rfl (fun ls hl => ?_)
    refine r_iconst X dX4_paidOf_38 ?_
    refine r_iload X dX4_paidOf_39 hl 0 rfl ?_
    refine r_aload_n X dX4_paidOf_41 hl 3 rfl ?_
    refine g_4_0 (k := k) X Y hk wm_161 dX4_paidOf_42 ?_
    refine r_iload_n X dX4_paidOf_45 hl 4 rfl ?_
    refine r_iconst X dX4_paidOf_46 ?_
    refine vF_i X Y [.int (iV (i)), .int (iV (3))] [.int (iV (fm - (dueS t f k (i + 1) (tget t f (k+1) i 2)))), .int (iV (0))] (ct_X5_get l g t f (k+1) i 3 (kr_4_0 hk) h.1 ⟨by omega, by omega⟩ ⟨by omega, by omega⟩) mk_X5_get mi_X5_get wm_419 (by decide) (rv_5 Y (kr_4_0 hk)) rfl hl (Nat.le_of_ble_eq_true rfl) rfl dX4_paidOf_47 (Nat.zero_le _) (Nat.zero_le _) (fun H locs Y => ?_)
    refine r_min X hl (by decide) (Nat.zero_le _) (Nat.zero_le _) wm_613 (Nat.le_of_ble_eq_true rfl) dX4_paidOf_50 ⟨by omega, by omega⟩ ⟨by omega, by omega⟩ ?_
    refine r_max X hl (by decide) (Nat.zero_le _) (Nat.zero_le _) wm_551 (Nat.le_of_ble_eq_true rfl) dX4_paidOf_53 ⟨by omega, by omega⟩ ⟨by omega, by omega⟩ ?_
    exact ret _ _ _ _ _ _ _ dX4_paidOf_56 Y ⟨by unfold paidS; (first | rw [if_pos (by omega)] | rw [if_neg (by omega)]), rfl, rfl⟩
set_option maxHeartbeats 4000000 in
set_option maxRecDepth 100000 in
theorem ct_X4_sailOn (l : Launch) (g : uG) (t : uN) (f : uF) (k : Nat) (comes : Int) (hk : kd k = 4) (h : 0 ≤ t k 1 ∧ t k 1 ≤ 9) (hc : comes = 0 ∨ comes = 1) : cF_v l yX4_sailOn cX4_sailOn 2 1 g [.ref (g.1 + k), .int (iV (comes))] t f (sailT t k comes) (f) := by
  refine eF_v (by decide +kernel) (Nat.le_of_ble_eq_true rfl) ?_
  intro p e R s m args below meth c Q ls H locs X Y hl ret
  have X : uX p 1 R s m args c cX4_sailOn 2 RX4 := X
  have hl : lv_has ls 2 [(0, .ref (g.1 + k)), (1, .int (iV (comes)))] := hl
  refine r_iload_n X dX4_sailOn_0 hl 1 rfl ?_
  refine r_if_eq X (tgt := 31) dX4_sailOn_1 (by decide) ⟨by omega, by omega⟩ (fun c1 => ?_) (fun c1 => ?_)
  · refine r_aload_n X dX4_sailOn_31 hl 0 rfl ?_
    refine r_iconst X dX4_sailOn_32 ?_
    refine p_4_4 (k := k) X Y hk wm_172 (by first | exact Or.inl rfl | exact Or.inr rfl | omega) dX4_sailOn_33 (fun H locs Y => ?_)
    obtain ⟨tq1, htq1⟩ : ∃ q, q = up2 t k 4 (1) := ⟨_, rfl⟩
    have Y : uY g 117 (cX g tq1 f) s H locs := by rw [htq1]; exact Y
    exact ret _ _ _ _ _ _ dX4_sailOn_36 Y (by subst htq1; unfold sailT; (first | rw [if_pos (by omega)] | rw [if_neg (by omega)]); exact ⟨rfl, rfl⟩)
  · refine r_aload_n X dX4_sailOn_4 hl 0 rfl ?_
    refine r_dup X dX4_sailOn_5 rfl ?_
    refine g_4_3 (k := k) X Y hk wm_169 dX4_sailOn_6 ?_
    refine r_iconst X dX4_sailOn_9 ?_
    refine r_iadd X dX4_sailOn_10 ?_
    refine p_4_3 (k := k) X Y hk wm_169 dX4_sailOn_11 (fun H locs Y => ?_)
    obtain ⟨tq1, htq1⟩ : ∃ q, q = up2 t k 3 ((t k 3) + 1) := ⟨_, rfl⟩
    have Y : uY g 117 (cX g tq1 f) s H locs := by rw [htq1]; exact Y
    refine r_aload_n X dX4_sailOn_14 hl 0 rfl ?_
    refine r_iconst X dX4_sailOn_15 ?_
    refine r_aload_n X dX4_sailOn_16 hl 0 rfl ?_
    refine g_4_1 (k := k) X Y hk wm_163 dX4_sailOn_17 ?_
    refine r_iconst X dX4_sailOn_20 ?_
    refine r_isub X dX4_sailOn_21 ?_
    have hq : tq1 k 1 = t k 1 := by rw [htq1, up2_j _ _ _ (by decide)]
    refine r_max X hl (by decide) (Nat.zero_le _) (Nat.zero_le _) wm_551 (Nat.le_of_ble_eq_true rfl) dX4_sailOn_22 ⟨by omega, by omega⟩ ⟨by omega, by omega⟩ ?_
    refine p_4_1 (k := k) X Y hk wm_163 dX4_sailOn_25 (fun H locs Y => ?_)
    obtain ⟨tq2, htq2⟩ : ∃ q, q = up2 tq1 k 1 (max 0 ((tq1 k 1) - 1)) := ⟨_, rfl⟩
    have Y : uY g 117 (cX g tq2 f) s H locs := by rw [htq2]; exact Y
    refine r_goto X 36 dX4_sailOn_28 (by decide) ?_
    exact ret _ _ _ _ _ _ dX4_sailOn_36 Y (by subst htq1 htq2; unfold sailT; (first | rw [if_pos (by omega)] | rw [if_neg (by omega)]); exact ⟨by rw [up2_j _ _ _ (by decide)], rfl⟩)
end
section
/-! copies of a ship's state; the past; the voyage's tables -/
theorem tOK_k {t : uN} {k k2 j : Nat} {z : Int} (hne : k2 ≠ k) (h : tOK t k2) : tOK (up2 t k j z) k2 := by
  unfold tOK
  rw [up2_k _ _ _ _ hne]
  exact h
theorem thas_b (t : uN) (k : Nat) (row : Int) : (thas t k row = 1 ∧ 0 ≤ row ∧ row < t k 3) ∨ (thas t k row = 0 ∧ ¬ (0 ≤ row ∧ row < t k 3)) := by
  unfold thas
  split <;> simp_all
theorem tfull_b (t : uN) (k : Nat) : (tfull t k = 1 ∧ tm k ≤ t k 3) ∨ (tfull t k = 0 ∧ t k 3 < tm k) := by
  unfold tfull
  split <;> simp_all
def sheCp (t : uN) (k k2 : Nat) : uN := (fun t => up2 t k 4 (t k2 4)) ((fun t => up2 t k 3 (t k2 3)) ((fun t => up2 t k 2 (t k2 2)) ((fun t => up2 t k 1 (t k2 1)) (up2 t (k + 1) 3 (t (k2 + 1) 3)))))
theorem sheCp_off {t : uN} {k k2 x : Nat} (h1 : x ≠ k) (h2 : x ≠ k + 1) (j : Nat) : sheCp t k k2 x j = t x j := by simp [sheCp, up2, h1, h2]
theorem sheCp_j {t : uN} {k k2 j : Nat} (h : k2 ≠ k) (h2 : k2 ≠ k + 1) (hj : 1 ≤ j) (hj4 : j ≤ 4) : sheCp t k k2 k j = t k2 j := by
  rcases (show j = 1 ∨ j = 2 ∨ j = 3 ∨ j = 4 by omega) with rfl | rfl | rfl | rfl <;> simp [sheCp, up2, h, h2]
theorem sheCp_n {t : uN} {k k2 : Nat} : sheCp t k k2 (k + 1) 3 = t (k2 + 1) 3 := by simp [sheCp, up2]
theorem kd_ne {a b : Nat} (h : kd a ≠ kd b) : a ≠ b := fun q => h (by rw [q])
/-- what is read out of a copied table -/
theorem tget_cp {t t2 : uN} {f f2 : uF} {k k2 : Nat} (hk : kd k = 5) (ht : tOK t k2) (hk2 : kd k2 = 5) (hw : tw k = tw k2) (hn : t2 k 3 = t k2 3) (hf : ∀ i : Int, 0 ≤ i → i < (al (k2 + 1) : Nat) → f2 (k + 1) i = f (k2 + 1) i) (row col : Int) : tget t2 f2 k row col = tget t f k2 row col := by
  unfold tget
  rw [hn, hw]
  split
  · next h =>
    have q := cell_rng hk2 ht h
    exact hf _ q.1 q.2.1
  · rfl
theorem tget_same {t t2 : uN} {f f2 : uF} {k : Nat} (hn : t2 k 3 = t k 3) (hf : ∀ i, f2 (k + 1) i = f (k + 1) i) (row col : Int) : tget t2 f2 k row col = tget t f k row col := by
  unfold tget
  rw [hn, hf]
theorem cpA_in {f : uF} {a b : Nat} {n i : Int} (h0 : 0 ≤ i) (h1 : i < n) : cpA f a b n b i = f a i := by simp [cpA, h0, h1]
theorem cpA_off {f : uF} {a b c : Nat} {n : Int} (h : c ≠ b) (i : Int) : cpA f a b n c i = f c i := by simp [cpA, h]
theorem SOK_cp {t : uN} {f : uF} {k k2 : Nat} (hk : kd k = 4) (hk2 : kd k2 = 4) (hne : k2 ≠ k) (h : SOK t f k2) : SOK (sheCp t k k2) (cpA f (k2 + 2) (k + 2) 40) k := by
  have e1 : k2 ≠ k + 1 := kd_ne (by rw [hk2, kr_4_0 hk]; decide)
  have eg : ∀ row col, tget (sheCp t k k2) (cpA f (k2 + 2) (k + 2) 40) (k + 1) row col = tget t f (k2 + 1) row col := tget_cp (kr_4_0 hk) h.1 (kr_4_0 hk2) (by rw [(kd4_w hk).1, (kd4_w hk2).1]) sheCp_n (fun i h0 h1 => by
    have ea := kd5_al (kr_4_0 hk2)
    rw [(kd4_w hk2).1, (kd4_w hk2).2] at ea
    exact cpA_in h0 (by omega))
  refine ⟨?_, by rw [sheCp_j hne e1 (by decide) (by decide)]; exact h.2.1, by rw [sheCp_j hne e1 (by decide) (by decide)]; exact h.2.2.1, by rw [sheCp_j hne e1 (by decide) (by decide)]; exact h.2.2.2.1, by rw [sheCp_j hne e1 (by decide) (by decide)]; exact h.2.2.2.2.1, fun i => by rw [eg, eg, eg, eg, eg]; exact h.2.2.2.2.2 i⟩
  have q := h.1
  unfold tOK at q ⊢
  rw [sheCp_n, (kd4_w hk).2]
  rw [(kd4_w hk2).2] at q
  exact q
theorem SOK_off {t t2 : uN} {f f2 : uF} {k : Nat} (h : SOK t f k) (ht : ∀ j, t2 k j = t k j) (hn : t2 (k + 1) 3 = t (k + 1) 3) (hf : ∀ i, f2 (k + 2) i = f (k + 2) i) : SOK t2 f2 k := by
  have eg : ∀ row col, tget t2 f2 (k + 1) row col = tget t f (k + 1) row col := tget_same hn hf
  refine ⟨?_, by rw [ht]; exact h.2.1, by rw [ht]; exact h.2.2.1, by rw [ht]; exact h.2.2.2.1, by rw [ht]; exact h.2.2.2.2.1, fun i => by rw [eg, eg, eg, eg, eg]; exact h.2.2.2.2.2 i⟩
  have q := h.1
  unfold tOK at q ⊢
  rw [hn]
  exact q
def slotC (t : uN) : Nat := 23 + 3 * (t 21 1).toNat
def latC (t : uN) : Int := if 0 < t 21 1 then t 21 1 - 1 else 19
def putT (t : uN) : uN := (fun t => up2 t 21 2 (min 20 (t 21 2 + 1))) ((fun t => up2 t 21 1 (if t 21 1 + 1 < 20 then t 21 1 + 1 else 0)) (sheCp t (23 + 3 * (t 21 1).toNat) 18))
def putF (t : uN) (f : uF) : uF := cpA f 20 (23 + 3 * (t 21 1).toNat + 2) 40
def takT (t : uN) : uN := (fun t0 => (fun t => up2 t 21 2 (t 21 2 - 1)) (up2 t0 21 1 (latC t))) (sheCp t 18 (23 + 3 * (latC t).toNat))
def takF (t : uN) (f : uF) : uF := cpA f (23 + 3 * (latC t).toNat + 2) 20 40
end
section
/-! the voyage, the ship's copies, the past, by contract -/
set_option maxHeartbeats 4000000 in
set_option maxRecDepth 100000 in
theorem ct_X6_oddsOf (l : Launch) (g : uG) (t : uN) (f : uF) (v : Nat) (i s0 : Int) (hv : kd v = 6) (h : VOK t f v) (hi : inI i) (h0 : 0 ≤ s0) (h1 : s0 ≤ 9) : cF_i l yX6_oddsOf cX6_oddsOf 4 (some .int) 3 g [.ref (g.1 + v), .int (iV (i)), .int (iV (s0))] t f (oddX t f v i s0) (t) (f) := by
  refine eF_i (by decide +kernel) (Nat.le_of_ble_eq_true rfl) ?_
  intro p e R s m args below meth c Q ls H locs X Y hl ret
  have X : uX p 3 R s m args c cX6_oddsOf 4 RX6 := X
  have hl : lv_has ls 4 [(0, .ref (g.1 + v)), (1, .int (iV (i))), (2, .int (iV (s0)))] := hl
  have hn := h.n hv
  have hk1 := kr_6_0 hv
  have hk3 := kr_6_1 hv
  have hk5 := kr_6_2 hv
  have hr := h.2.1 i
  have ho := oddX_rng h i s0 h0 h1
  refine r_bipush X 9 dX6_oddsOf_0 (by decide) ?_
  refine r_iload_n X dX6_oddsOf_2 hl 2 rfl ?_
  refine r_isub X dX6_oddsOf_3 ?_
  refine r_istore_n X dX6_oddsOf_4 hl [(3, .int (iV (9 - s0))), (0, .ref (g.1 + v)), (1, .int (iV (i))), (2, .int (iV (s0)))] (by decide) rfl (fun ls hl => ?_)
  refine r_bipush X 100 dX6_oddsOf_5 (by decide) ?_
  refine r_aload_n X dX6_oddsOf_7 hl 1 rfl ?_
  refine g_6_1 (k := v) X Y hv wm_121 dX6_oddsOf_8 ?_
  refine r_iload_n X dX6_oddsOf_11 hl 2 rfl ?_
  refine r_iconst X dX6_oddsOf_12 ?_
  refine vF_i X Y [.int (iV (i)), .int (iV (0))] [.int (iV (100))] (ct_X5_get l g t f (v+3) i 0 (kr_6_1 hv) h.1.2.1 ⟨by omega, by omega⟩ ⟨by omega, by omega⟩) mk_X5_get mi_X5_get wm_476 (by decide) (rv_5 Y (kr_6_1 hv)) rfl hl (Nat.le_of_ble_eq_true rfl) rfl dX6_oddsOf_13 (Nat.zero_le _) (Nat.zero_le _) (fun H locs Y => ?_)
  refine r_aload_n X dX6_oddsOf_16 hl 1 rfl ?_
  refine g_6_1 (k := v) X Y hv wm_121 dX6_oddsOf_17 ?_
  refine r_iload_n X dX6_oddsOf_20 hl 2 rfl ?_
  refine r_iconst X dX6_oddsOf_21 ?_
  refine vF_i X Y [.int (iV (i)), .int (iV (1))] [.int (iV (tget t f (v+3) i 0)), .int (iV (100))] (ct_X5_get l g t f (v+3) i 1 (kr_6_1 hv) h.1.2.1 ⟨by omega, by omega⟩ ⟨by omega, by omega⟩) mk_X5_get mi_X5_get wm_476 (by decide) (rv_5 Y (kr_6_1 hv)) rfl hl (Nat.le_of_ble_eq_true rfl) rfl dX6_oddsOf_22 (Nat.zero_le _) (Nat.zero_le _) (fun H locs Y => ?_)
  refine r_iload_n X dX6_oddsOf_25 hl 0 rfl ?_
  refine r_imul X dX6_oddsOf_26 ?_
  refine r_iadd X dX6_oddsOf_27 ?_
  refine r_min X hl (by decide) (Nat.zero_le _) (Nat.zero_le _) wm_477 (Nat.le_of_ble_eq_true rfl) dX6_oddsOf_28 ⟨by omega, by omega⟩ ⟨by omega, by omega⟩ ?_
  exact ret _ _ _ _ _ _ _ dX6_oddsOf_31 Y ⟨rfl, rfl, rfl⟩
set_option maxHeartbeats 4000000 in
set_option maxRecDepth 100000 in
theorem ct_X6_comeThrough (l : Launch) (g : uG) (t : uN) (f : uF) (v : Nat) (i s0 c0 : Int) (hv : kd v = 6) (h : VOK t f v) (hi : inI i) (h0 : 0 ≤ s0) (h1 : s0 ≤ 9) (h2 : 0 ≤ c0) (h3 : c0 ≤ 1000000) : cF_i l yX6_comeThrough cX6_comeThrough 4 (some .int) 4 g [.ref (g.1 + v), .int (iV (i)), .int (iV (s0)), .int (iV (c0))] t f ((c0 * (100 - oddX t f v i s0)).tdiv 100) (t) (f) := by
  refine eF_i (by decide +kernel) (Nat.le_of_ble_eq_true rfl) ?_
  intro p e R s m args below meth c Q ls H locs X Y hl ret
  have X : uX p 4 R s m args c cX6_comeThrough 4 RX6 := X
  have hl : lv_has ls 4 [(0, .ref (g.1 + v)), (1, .int (iV (i))), (2, .int (iV (s0))), (3, .int (iV (c0)))] := hl
  have hn := h.n hv
  have hk1 := kr_6_0 hv
  have hk3 := kr_6_1 hv
  have hk5 := kr_6_2 hv
  have ho := oddX_rng h i s0 h0 h1
  have hs := step_rng h2 h3 ho.1 ho.2.1
  refine r_iload_n X dX6_comeThrough_0 hl 3 rfl ?_
  refine r_bipush X 100 dX6_comeThrough_1 (by decide) ?_
  refine r_aload_n X dX6_comeThrough_3 hl 0 rfl ?_
  refine r_iload_n X dX6_comeThrough_4 hl 1 rfl ?_
  refine r_iload_n X dX6_comeThrough_5 hl 2 rfl ?_
  refine vF_i X Y [.int (iV (i)), .int (iV (s0))] [.int (iV (100)), .int (iV (c0))] (ct_X6_oddsOf l g t f v i s0 hv h ⟨by omega, by omega⟩ (by omega) (by omega)) mk_X6_oddsOf mi_X6_oddsOf wm_585 (by decide) (rv_6 Y hv) rfl hl (Nat.le_of_ble_eq_true rfl) rfl dX6_comeThrough_6 (Nat.zero_le _) (Nat.zero_le _) (fun H locs Y => ?_)
  refine r_isub X dX6_comeThrough_9 ?_
  refine r_imul X dX6_comeThrough_10 ?_
  refine r_bipush X 100 dX6_comeThrough_11 (by decide) ?_
  refine r_idiv X dX6_comeThrough_13 ⟨by omega, by omega⟩ ⟨by omega, by omega⟩ (by omega) ?_
  exact ret _ _ _ _ _ _ _ dX6_comeThrough_14 Y ⟨rfl, rfl, rfl⟩
set_option maxHeartbeats 4000000 in
set_option maxRecDepth 100000 in
theorem ct_X6_chanceThrough (l : Launch) (g : uG) (t : uN) (f : uF) (v : Nat) (a b s0 : Int) (hv : kd v = 6) (h : VOK t f v) (h0 : 0 ≤ s0) (h1 : s0 ≤ 9) (ha : 0 ≤ a ∧ a ≤ 100) (hb : 0 ≤ b ∧ b ≤ 100) : cF_i l yX6_chanceThrough cX6_chanceThrough 7 (some .int) 5 g [.ref (g.1 + v), .int (iV (a)), .int (iV (b)), .int (iV (s0))] t f (thru (oddX t f v) a b s0 1000000) (t) (f) := by
  refine eF_i (by decide +kernel) (Nat.le_of_ble_eq_true rfl) ?_
  intro p e R s m args below meth c Q ls H locs X Y hl ret
  have X : uX p 5 R s m args c cX6_chanceThrough 7 RX6 := X
  have hl : lv_has ls 7 [(0, .ref (g.1 + v)), (1, .int (iV (a))), (2, .int (iV (b))), (3, .int (iV (s0)))] := hl
  have hn := h.n hv
  have hk1 := kr_6_0 hv
  have hk3 := kr_6_1 hv
  have hk5 := kr_6_2 hv
  refine r_ldc X 1000000 wm_580 (by decide) dX6_chanceThrough_0 ?_
  refine r_istore X dX6_chanceThrough_2 hl [(4, .int (iV (1000000))), (0, .ref (g.1 + v)), (1, .int (iV (a))), (2, .int (iV (b))), (3, .int (iV (s0)))] (by decide) rfl (fun ls hl => ?_)
  refine r_iload_n X dX6_chanceThrough_4 hl 4 rfl ?_
  refine r_istore X dX6_chanceThrough_5 hl [(5, .int (iV (s0))), (4, .int (iV (1000000))), (0, .ref (g.1 + v)), (1, .int (iV (a))), (2, .int (iV (b))), (3, .int (iV (s0)))] (by decide) rfl (fun ls hl => ?_)
  refine r_iload_n X dX6_chanceThrough_7 hl 3 rfl ?_
  refine r_istore X dX6_chanceThrough_8 hl [(6, .int (iV (a))), (5, .int (iV (s0))), (4, .int (iV (1000000))), (0, .ref (g.1 + v)), (1, .int (iV (a))), (2, .int (iV (b))), (3, .int (iV (s0)))] (by decide) rfl (fun ls hl => ?_)
  have loop10 : ∀ (N : Nat) (i : Int) (q : Int) (c0 : Int) (hi0 : a ≤ i) (hi1 : i ≤ a ∨ i ≤ b) (hq0 : 0 ≤ q) (hq1 : q ≤ 9) (hc0 : 0 ≤ c0) (hc1 : c0 ≤ 1000000) (he : thru (oddX t f v) i b q c0 = thru (oddX t f v) a b s0 1000000) (H : Heap) (locs : List Loc) (ls : Array Slot), (b - i).toNat < N → uY g 117 (cX g t f) s H locs → lv_has ls 7 [(4, .int (iV (c0))), (5, .int (iV (q))), (6, .int (iV (i))), (0, .ref (g.1 + v)), (2, .int (iV (b)))] → W p l e R s m args below meth c H locs 0 0 Q (F0 m 10 ls []) := by
    intro N
    induction N with
    | zero => intro i q c0 hi0 hi1 hq0 hq1 hc0 hc1 he H locs ls hmu Y hl; exact absurd hmu (Nat.not_lt_zero _)
    | succ N ih =>
      intro i q c0 hi0 hi1 hq0 hq1 hc0 hc1 he H locs ls hmu Y hl
      have ho := oddX_rng h i q hq0 hq1
      have hs := step_rng hc0 hc1 ho.1 ho.2.1
      refine r_iload X dX6_chanceThrough_10 hl 2 rfl ?_
      refine r_iload_n X dX6_chanceThrough_12 hl 4 rfl ?_
      refine r_icmp_ge X (tgt := 44) dX6_chanceThrough_13 (by decide) ⟨by omega, by omega⟩ ⟨by omega, by omega⟩ (fun c13 => ?_) (fun c13 => ?_)
      · refine r_iload X dX6_chanceThrough_44 hl 0 rfl ?_
        exact ret _ _ _ _ _ _ _ dX6_chanceThrough_46 Y ⟨by rw [← he, thru_end _ (by omega)], rfl, rfl⟩
      · refine r_aload_n X dX6_chanceThrough_16 hl 3 rfl ?_
        refine r_iload X dX6_chanceThrough_17 hl 2 rfl ?_
        refine r_iload X dX6_chanceThrough_19 hl 1 rfl ?_
        refine r_iload X dX6_chanceThrough_21 hl 0 rfl ?_
        refine vF_i X Y [.int (iV (i)), .int (iV (q)), .int (iV (c0))] [] (ct_X6_comeThrough l g t f v i q c0 hv h ⟨by omega, by omega⟩ (by omega) (by omega) (by omega) (by omega)) mk_X6_comeThrough mi_X6_comeThrough wm_581 (by decide) (rv_6 Y hv) rfl hl (Nat.le_of_ble_eq_true rfl) rfl dX6_chanceThrough_23 (Nat.zero_le _) (Nat.zero_le _) (fun H locs Y => ?_)
        refine r_istore X dX6_chanceThrough_26 hl [(4, .int (iV ((c0 * (100 - oddX t f v i q)).tdiv 100))), (5, .int (iV (q))), (6, .int (iV (i))), (0, .ref (g.1 + v)), (2, .int (iV (b)))] (by decide) rfl (fun ls hl => ?_)
        refine r_iconst X dX6_chanceThrough_28 ?_
        refine r_iload X dX6_chanceThrough_29 hl 1 rfl ?_
        refine r_iconst X dX6_chanceThrough_31 ?_
        refine r_isub X dX6_chanceThrough_32 ?_
        refine r_max X hl (by decide) (Nat.zero_le _) (Nat.zero_le _) wm_586 (Nat.le_of_ble_eq_true rfl) dX6_chanceThrough_33 ⟨by omega, by omega⟩ ⟨by omega, by omega⟩ ?_
        refine r_istore X dX6_chanceThrough_36 hl [(5, .int (iV (max 0 (q - 1)))), (4, .int (iV ((c0 * (100 - oddX t f v i q)).tdiv 100))), (6, .int (iV (i))), (0, .ref (g.1 + v)), (2, .int (iV (b)))] (by decide) rfl (fun ls hl => ?_)
        refine r_iinc X dX6_chanceThrough_38 hl 2 rfl [(6, .int (iV (i + 1))), (5, .int (iV (max 0 (q - 1)))), (4, .int (iV ((c0 * (100 - oddX t f v i q)).tdiv 100))), (0, .ref (g.1 + v)), (2, .int (iV (b)))] (by decide) rfl (fun ls hl => ?_)
        refine r_goto X 10 dX6_chanceThrough_41 (by decide) ?_
        exact ih (i + 1) (max 0 (q - 1)) ((c0 * (100 - oddX t f v i q)).tdiv 100) (by omega) (by omega) (by omega) (by omega) (by omega) (by omega) (by rw [← he]; exact (thru_step (o := oddX t f v) (a := i) (b := b) (s := q) (v := c0) (by omega)).symm) _ _ _ (by omega) Y (lv_sub hl [2, 1, 0, 3, 4] rfl)
  exact loop10 (((b - a).toNat) + 1) a s0 1000000 (by omega) (by omega) (by omega) (by omega) (by omega) (by omega) rfl _ _ _ (Nat.lt_succ_self _) Y (lv_sub hl [2, 1, 0, 3, 5] rfl)
set_option maxHeartbeats 4000000 in
set_option maxRecDepth 100000 in
theorem ct_X6_dueOf (l : Launch) (g : uG) (t : uN) (f : uF) (v : Nat) (m0 a : Int) (hv : kd v = 6) (h : VOK t f v) (hm : inI m0) (h0 : 0 ≤ a) (h1 : a ≤ 999) : cF_i l yX6_dueOf cX6_dueOf 3 (some .int) 3 g [.ref (g.1 + v), .int (iV (m0)), .int (iV (a))] t f (owedX t f v m0 a) (t) (f) := by
  refine eF_i (by decide +kernel) (Nat.le_of_ble_eq_true rfl) ?_
  intro p e R s m args below meth c Q ls H locs X Y hl ret
  have X : uX p 3 R s m args c cX6_dueOf 3 RX6 := X
  have hl : lv_has ls 3 [(0, .ref (g.1 + v)), (1, .int (iV (m0))), (2, .int (iV (a)))] := hl
  have hn := h.n hv
  have hk1 := kr_6_0 hv
  have hk3 := kr_6_1 hv
  have hk5 := kr_6_2 hv
  have hr := owedX_rng h m0 a h0 h1
  refine r_iload_n X dX6_dueOf_0 hl 2 rfl ?_
  refine r_iload_n X dX6_dueOf_1 hl 2 rfl ?_
  refine r_aload_n X dX6_dueOf_2 hl 0 rfl ?_
  refine g_6_2 (k := v) X Y hv wm_125 dX6_dueOf_3 ?_
  refine r_iload_n X dX6_dueOf_6 hl 1 rfl ?_
  refine r_iconst X dX6_dueOf_7 ?_
  refine vF_i X Y [.int (iV (m0)), .int (iV (1))] [.int (iV (a)), .int (iV (a))] (ct_X5_get l g t f (v+5) m0 1 (kr_6_2 hv) h.1.2.2 ⟨by omega, by omega⟩ ⟨by omega, by omega⟩) mk_X5_get mi_X5_get wm_476 (by decide) (rv_5 Y (kr_6_2 hv)) rfl hl (Nat.le_of_ble_eq_true rfl) rfl dX6_dueOf_8 (Nat.zero_le _) (Nat.zero_le _) (fun H locs Y => ?_)
  refine r_imul X dX6_dueOf_11 ?_
  refine r_bipush X 100 dX6_dueOf_12 (by decide) ?_
  refine r_idiv X dX6_dueOf_14 ⟨by omega, by omega⟩ ⟨by omega, by omega⟩ (by omega) ?_
  refine r_iadd X dX6_dueOf_15 ?_
  exact ret _ _ _ _ _ _ _ dX6_dueOf_16 Y ⟨rfl, rfl, rfl⟩
set_option maxHeartbeats 4000000 in
set_option maxRecDepth 100000 in
theorem ct_X6_clear (l : Launch) (g : uG) (t : uN) (f : uF)   : cF_v l yX6_clear cX6_clear 1 2 g [.ref (g.1 + 4)] t f (up2 (up2 (up2 t 5 3 0) 7 3 0) 9 3 0) (f) := by
  refine eF_v (by decide +kernel) (Nat.le_of_ble_eq_true rfl) ?_
  intro p e R s m args below meth c Q ls H locs X Y hl ret
  have X : uX p 2 R s m args c cX6_clear 1 RX6 := X
  have hl : lv_has ls 1 [(0, .ref (g.1 + 4))] := hl
  refine r_aload_n X dX6_clear_0 hl 0 rfl ?_
  refine g_6_0 (k := 4) X Y rfl wm_117 dX6_clear_1 ?_
  refine vF_v X Y [] [] (ct_X5_clear l g t f 5 rfl) mk_X5_clear mi_X5_clear wm_336 (by decide) (rv_5 Y rfl) rfl hl (Nat.le_of_ble_eq_true rfl) rfl dX6_clear_4 (Nat.zero_le _) (Nat.zero_le _) (fun H locs Y => ?_)
  obtain ⟨tq1, htq1⟩ : ∃ q, q = up2 t 5 3 0 := ⟨_, rfl⟩
  have Y : uY g 117 (cX g tq1 f) s H locs := by rw [htq1]; exact Y
  refine r_aload_n X dX6_clear_7 hl 0 rfl ?_
  refine g_6_1 (k := 4) X Y rfl wm_121 dX6_clear_8 ?_
  refine vF_v X Y [] [] (ct_X5_clear l g tq1 f 7 rfl) mk_X5_clear mi_X5_clear wm_336 (by decide) (rv_5 Y rfl) rfl hl (Nat.le_of_ble_eq_true rfl) rfl dX6_clear_11 (Nat.zero_le _) (Nat.zero_le _) (fun H locs Y => ?_)
  obtain ⟨tq2, htq2⟩ : ∃ q, q = up2 tq1 7 3 0 := ⟨_, rfl⟩
  have Y : uY g 117 (cX g tq2 f) s H locs := by rw [htq2]; exact Y
  refine r_aload_n X dX6_clear_14 hl 0 rfl ?_
  refine g_6_2 (k := 4) X Y rfl wm_125 dX6_clear_15 ?_
  refine vF_v X Y [] [] (ct_X5_clear l g tq2 f 9 rfl) mk_X5_clear mi_X5_clear wm_336 (by decide) (rv_5 Y rfl) rfl hl (Nat.le_of_ble_eq_true rfl) rfl dX6_clear_18 (Nat.zero_le _) (Nat.zero_le _) (fun H locs Y => ?_)
  obtain ⟨tq3, htq3⟩ : ∃ q, q = up2 tq2 9 3 0 := ⟨_, rfl⟩
  have Y : uY g 117 (cX g tq3 f) s H locs := by rw [htq3]; exact Y
  exact ret _ _ _ _ _ _ dX6_clear_21 Y (by subst htq1 htq2 htq3; exact ⟨rfl, rfl⟩)
set_option maxHeartbeats 4000000 in
set_option maxRecDepth 100000 in
theorem ct_X6_become (l : Launch) (g : uG) (t : uN) (f : uF)  (h5 : tOK t 5) (h7 : tOK t 7) (h9 : tOK t 9) (h12 : tOK t 12) (h14 : tOK t 14) (h16 : tOK t 16) : cF_v l yX6_become cX6_become 2 3 g [.ref (g.1 + 11), .ref (g.1 + 4)] t f ((fun t => up2 t 16 3 (t 9 3)) ((fun t => up2 t 14 3 (t 7 3)) (up2 t 12 3 (t 5 3)))) (cpA (cpA (cpA f 6 13 4) 8 15 21) 10 17 10) := by
  refine eF_v (by decide +kernel) (Nat.le_of_ble_eq_true rfl) ?_
  intro p e R s m args below meth c Q ls H locs X Y hl ret
  have X : uX p 3 R s m args c cX6_become 2 RX6 := X
  have hl : lv_has ls 2 [(0, .ref (g.1 + 11)), (1, .ref (g.1 + 4))] := hl
  refine r_aload_n X dX6_become_0 hl 0 rfl ?_
  refine g_6_0 (k := 11) X Y rfl wm_117 dX6_become_1 ?_
  refine r_aload_n X dX6_become_4 hl 1 rfl ?_
  refine g_6_0 (k := 4) X Y rfl wm_117 dX6_become_5 ?_
  refine vF_v X Y [.ref (g.1 + 5)] [] (ct_X5_become l g t f 12 5 rfl h12 rfl h5 rfl rfl) mk_X5_become mi_X5_become wm_406 (by decide) (rv_5 Y rfl) rfl hl (Nat.le_of_ble_eq_true rfl) rfl dX6_become_8 (Nat.zero_le _) (Nat.zero_le _) (fun H locs Y => ?_)
  obtain ⟨tq1, htq1⟩ : ∃ q, q = up2 t 12 3 (t 5 3) := ⟨_, rfl⟩
  obtain ⟨fq2, hfq2⟩ : ∃ q, q = cpA f (5 + 1) (12 + 1) (tw 12 * tm 12) := ⟨_, rfl⟩
  have Y : uY g 117 (cX g tq1 fq2) s H locs := by rw [htq1, hfq2]; exact Y
  refine r_aload_n X dX6_become_11 hl 0 rfl ?_
  refine g_6_1 (k := 11) X Y rfl wm_121 dX6_become_12 ?_
  refine r_aload_n X dX6_become_15 hl 1 rfl ?_
  refine g_6_1 (k := 4) X Y rfl wm_121 dX6_become_16 ?_
  refine vF_v X Y [.ref (g.1 + 7)] [] (ct_X5_become l g tq1 fq2 14 7 rfl (by rw [htq1]; exact tOK_k (by decide) h14) rfl (by rw [htq1]; exact tOK_k (by decide) h7) rfl rfl) mk_X5_become mi_X5_become wm_406 (by decide) (rv_5 Y rfl) rfl hl (Nat.le_of_ble_eq_true rfl) rfl dX6_become_19 (Nat.zero_le _) (Nat.zero_le _) (fun H locs Y => ?_)
  obtain ⟨tq3, htq3⟩ : ∃ q, q = up2 tq1 14 3 (tq1 7 3) := ⟨_, rfl⟩
  obtain ⟨fq4, hfq4⟩ : ∃ q, q = cpA fq2 (7 + 1) (14 + 1) (tw 14 * tm 14) := ⟨_, rfl⟩
  have Y : uY g 117 (cX g tq3 fq4) s H locs := by rw [htq3, hfq4]; exact Y
  refine r_aload_n X dX6_become_22 hl 0 rfl ?_
  refine g_6_2 (k := 11) X Y rfl wm_125 dX6_become_23 ?_
  refine r_aload_n X dX6_become_26 hl 1 rfl ?_
  refine g_6_2 (k := 4) X Y rfl wm_125 dX6_become_27 ?_
  refine vF_v X Y [.ref (g.1 + 9)] [] (ct_X5_become l g tq3 fq4 16 9 rfl (by rw [htq3]; exact tOK_k (by decide) (by rw [htq1]; exact tOK_k (by decide) h16)) rfl (by rw [htq3]; exact tOK_k (by decide) (by rw [htq1]; exact tOK_k (by decide) h9)) rfl rfl) mk_X5_become mi_X5_become wm_406 (by decide) (rv_5 Y rfl) rfl hl (Nat.le_of_ble_eq_true rfl) rfl dX6_become_30 (Nat.zero_le _) (Nat.zero_le _) (fun H locs Y => ?_)
  obtain ⟨tq5, htq5⟩ : ∃ q, q = up2 tq3 16 3 (tq3 9 3) := ⟨_, rfl⟩
  obtain ⟨fq6, hfq6⟩ : ∃ q, q = cpA fq4 (9 + 1) (16 + 1) (tw 16 * tm 16) := ⟨_, rfl⟩
  have Y : uY g 117 (cX g tq5 fq6) s H locs := by rw [htq5, hfq6]; exact Y
  exact ret _ _ _ _ _ _ dX6_become_33 Y (by subst htq1 hfq2 htq3 hfq4 htq5 hfq6; exact ⟨rfl, rfl⟩)
set_option maxHeartbeats 4000000 in
set_option maxRecDepth 100000 in
theorem ct_X4_become (l : Launch) (g : uG) (t : uN) (f : uF) (k k2 : Nat) (hk : kd k = 4) (hk2 : kd k2 = 4) (hne : k2 ≠ k) (h1 : tOK t (k + 1)) (h2 : tOK t (k2 + 1)) (h4 : t k2 4 = 0 ∨ t k2 4 = 1) : cF_v l yX4_become cX4_become 2 3 g [.ref (g.1 + k), .ref (g.1 + k2)] t f (sheCp t k k2) (cpA f (k2 + 2) (k + 2) 40) := by
  refine eF_v (by decide +kernel) (Nat.le_of_ble_eq_true rfl) ?_
  intro p e R s m args below meth c Q ls H locs X Y hl ret
  have X : uX p 3 R s m args c cX4_become 2 RX4 := X
  have hl : lv_has ls 2 [(0, .ref (g.1 + k)), (1, .ref (g.1 + k2))] := hl
  have e1 : k2 ≠ k + 1 := kd_ne (by rw [hk2, kr_4_0 hk]; decide)
  refine r_aload_n X dX4_become_0 hl 0 rfl ?_
  refine g_4_0 (k := k) X Y hk wm_161 dX4_become_1 ?_
  refine r_aload_n X dX4_become_4 hl 1 rfl ?_
  refine g_4_0 (k := k2) X Y hk2 wm_161 dX4_become_5 ?_
  refine vF_v X Y [.ref (g.1 + (k2+1))] [] (ct_X5_become l g t f (k+1) (k2+1) (kr_4_0 hk) h1 (kr_4_0 hk2) h2 (by rw [(kd4_w hk).1, (kd4_w hk2).1]) (by rw [(kd4_w hk).2, (kd4_w hk2).2])) mk_X5_become mi_X5_become wm_527 (by decide) (rv_5 Y (kr_4_0 hk)) rfl hl (Nat.le_of_ble_eq_true rfl) rfl dX4_become_8 (Nat.zero_le _) (Nat.zero_le _) (fun H locs Y => ?_)
  obtain ⟨tq1, htq1⟩ : ∃ q, q = up2 t (k+1) 3 (t (k2+1) 3) := ⟨_, rfl⟩
  obtain ⟨fq2, hfq2⟩ : ∃ q, q = cpA f ((k2+1) + 1) ((k+1) + 1) (tw (k+1) * tm (k+1)) := ⟨_, rfl⟩
  have Y : uY g 117 (cX g tq1 fq2) s H locs := by rw [htq1, hfq2]; exact Y
  refine r_aload_n X dX4_become_11 hl 0 rfl ?_
  refine r_aload_n X dX4_become_12 hl 1 rfl ?_
  refine g_4_1 (k := k2) X Y hk2 wm_163 dX4_become_13 ?_
  refine p_4_1 (k := k) X Y hk wm_163 dX4_become_16 (fun H locs Y => ?_)
  obtain ⟨tq3, htq3⟩ : ∃ q, q = up2 tq1 k 1 (tq1 k2 1) := ⟨_, rfl⟩
  have Y : uY g 117 (cX g tq3 fq2) s H locs := by rw [htq3]; exact Y
  refine r_aload_n X dX4_become_19 hl 0 rfl ?_
  refine r_aload_n X dX4_become_20 hl 1 rfl ?_
  refine g_4_2 (k := k2) X Y hk2 wm_166 dX4_become_21 ?_
  refine p_4_2 (k := k) X Y hk wm_166 dX4_become_24 (fun H locs Y => ?_)
  obtain ⟨tq4, htq4⟩ : ∃ q, q = up2 tq3 k 2 (tq3 k2 2) := ⟨_, rfl⟩
  have Y : uY g 117 (cX g tq4 fq2) s H locs := by rw [htq4]; exact Y
  refine r_aload_n X dX4_become_27 hl 0 rfl ?_
  refine r_aload_n X dX4_become_28 hl 1 rfl ?_
  refine g_4_3 (k := k2) X Y hk2 wm_169 dX4_become_29 ?_
  refine p_4_3 (k := k) X Y hk wm_169 dX4_become_32 (fun H locs Y => ?_)
  obtain ⟨tq5, htq5⟩ : ∃ q, q = up2 tq4 k 3 (tq4 k2 3) := ⟨_, rfl⟩
  have Y : uY g 117 (cX g tq5 fq2) s H locs := by rw [htq5]; exact Y
  refine r_aload_n X dX4_become_35 hl 0 rfl ?_
  refine r_aload_n X dX4_become_36 hl 1 rfl ?_
  refine g_4_4 (k := k2) X Y hk2 wm_172 dX4_become_37 ?_
  have hz : tq5 k2 4 = 0 ∨ tq5 k2 4 = 1 := by simp only [htq5, htq4, htq3, htq1, up2_k _ _ _ _ hne, up2_k _ _ _ _ e1]; exact h4
  refine p_4_4 (k := k) X Y hk wm_172 (by first | exact Or.inl rfl | exact Or.inr rfl | omega) dX4_become_40 (fun H locs Y => ?_)
  obtain ⟨tq6, htq6⟩ : ∃ q, q = up2 tq5 k 4 (tq5 k2 4) := ⟨_, rfl⟩
  have Y : uY g 117 (cX g tq6 fq2) s H locs := by rw [htq6]; exact Y
  exact ret _ _ _ _ _ _ dX4_become_43 Y (by subst htq1 hfq2 htq3 htq4 htq5 htq6; exact ⟨rfl, by rw [(kd4_w hk).1, (kd4_w hk).2]; rfl⟩)
set_option maxHeartbeats 4000000 in
set_option maxRecDepth 100000 in
theorem ct_X4_begin (l : Launch) (g : uG) (t : uN) (f : uF)  (h12 : tOK t 12) : cF_v l yX4_begin cX4_begin 2 3 g [.ref (g.1 + 18), .ref (g.1 + 11)] t f ((fun t => up2 (up2 (up2 t 18 2 (tget t f 12 0 3)) 18 3 0) 18 4 0) ((fun t => up2 t 18 1 (tget t f 12 0 2)) (up2 t 19 3 0))) (f) := by
  refine eF_v (by decide +kernel) (Nat.le_of_ble_eq_true rfl) ?_
  intro p e R s m args below meth c Q ls H locs X Y hl ret
  have X : uX p 3 R s m args c cX4_begin 2 RX4 := X
  have hl : lv_has ls 2 [(0, .ref (g.1 + 18)), (1, .ref (g.1 + 11))] := hl
  refine r_aload_n X dX4_begin_0 hl 0 rfl ?_
  refine g_4_0 (k := 18) X Y rfl wm_161 dX4_begin_1 ?_
  refine vF_v X Y [] [] (ct_X5_clear l g t f 19 rfl) mk_X5_clear mi_X5_clear wm_418 (by decide) (rv_5 Y rfl) rfl hl (Nat.le_of_ble_eq_true rfl) rfl dX4_begin_4 (Nat.zero_le _) (Nat.zero_le _) (fun H locs Y => ?_)
  obtain ⟨tq1, htq1⟩ : ∃ q, q = up2 t 19 3 0 := ⟨_, rfl⟩
  have Y : uY g 117 (cX g tq1 f) s H locs := by rw [htq1]; exact Y
  refine r_aload_n X dX4_begin_7 hl 0 rfl ?_
  refine r_aload_n X dX4_begin_8 hl 1 rfl ?_
  refine g_6_0 (k := 11) X Y rfl wm_118 dX4_begin_9 ?_
  refine r_iconst X dX4_begin_12 ?_
  refine r_iconst X dX4_begin_13 ?_
  refine vF_i X Y [.int (iV (0)), .int (iV (2))] [.ref (g.1 + 18)] (ct_X5_get l g tq1 f 12 0 2 rfl (by rw [htq1]; exact tOK_k (by decide) h12) ⟨by omega, by omega⟩ ⟨by omega, by omega⟩) mk_X5_get mi_X5_get wm_419 (by decide) (rv_5 Y rfl) rfl hl (Nat.le_of_ble_eq_true rfl) rfl dX4_begin_14 (Nat.zero_le _) (Nat.zero_le _) (fun H locs Y => ?_)
  refine p_4_1 (k := 18) X Y rfl wm_163 dX4_begin_17 (fun H locs Y => ?_)
  obtain ⟨tq2, htq2⟩ : ∃ q, q = up2 tq1 18 1 (tget tq1 f 12 0 2) := ⟨_, rfl⟩
  have Y : uY g 117 (cX g tq2 f) s H locs := by rw [htq2]; exact Y
  refine r_aload_n X dX4_begin_20 hl 0 rfl ?_
  refine r_aload_n X dX4_begin_21 hl 1 rfl ?_
  refine g_6_0 (k := 11) X Y rfl wm_118 dX4_begin_22 ?_
  refine r_iconst X dX4_begin_25 ?_
  refine r_iconst X dX4_begin_26 ?_
  refine vF_i X Y [.int (iV (0)), .int (iV (3))] [.ref (g.1 + 18)] (ct_X5_get l g tq2 f 12 0 3 rfl (by rw [htq2]; exact tOK_k (by decide) (by rw [htq1]; exact tOK_k (by decide) h12)) ⟨by omega, by omega⟩ ⟨by omega, by omega⟩) mk_X5_get mi_X5_get wm_419 (by decide) (rv_5 Y rfl) rfl hl (Nat.le_of_ble_eq_true rfl) rfl dX4_begin_27 (Nat.zero_le _) (Nat.zero_le _) (fun H locs Y => ?_)
  refine p_4_2 (k := 18) X Y rfl wm_166 dX4_begin_30 (fun H locs Y => ?_)
  obtain ⟨tq3, htq3⟩ : ∃ q, q = up2 tq2 18 2 (tget tq2 f 12 0 3) := ⟨_, rfl⟩
  have Y : uY g 117 (cX g tq3 f) s H locs := by rw [htq3]; exact Y
  refine r_aload_n X dX4_begin_33 hl 0 rfl ?_
  refine r_iconst X dX4_begin_34 ?_
  refine p_4_3 (k := 18) X Y rfl wm_169 dX4_begin_35 (fun H locs Y => ?_)
  obtain ⟨tq4, htq4⟩ : ∃ q, q = up2 tq3 18 3 (0) := ⟨_, rfl⟩
  have Y : uY g 117 (cX g tq4 f) s H locs := by rw [htq4]; exact Y
  refine r_aload_n X dX4_begin_38 hl 0 rfl ?_
  refine r_iconst X dX4_begin_39 ?_
  refine p_4_4 (k := 18) X Y rfl wm_172 (by first | exact Or.inl rfl | exact Or.inr rfl | omega) dX4_begin_40 (fun H locs Y => ?_)
  obtain ⟨tq5, htq5⟩ : ∃ q, q = up2 tq4 18 4 (0) := ⟨_, rfl⟩
  have Y : uY g 117 (cX g tq5 f) s H locs := by rw [htq5]; exact Y
  exact ret _ _ _ _ _ _ dX4_begin_43 Y (by subst htq1 htq2 htq3 htq4 htq5; exact ⟨rfl, rfl⟩)
set_option maxHeartbeats 4000000 in
set_option maxRecDepth 100000 in
theorem ct_X1_acts (l : Launch) (g : uG) (t : uN) (f : uF)   : cF_i l yX1_acts cX1_acts 1 (some .int) 1 g [.ref (g.1 + 21)] t f (t 21 2) (t) (f) := by
  refine eF_i (by decide +kernel) (Nat.le_of_ble_eq_true rfl) ?_
  intro p e R s m args below meth c Q ls H locs X Y hl ret
  have X : uX p 1 R s m args c cX1_acts 1 RX1 := X
  have hl : lv_has ls 1 [(0, .ref (g.1 + 21))] := hl
  refine r_aload_n X dX1_acts_0 hl 0 rfl ?_
  refine g_1_2 (k := 21) X Y rfl wm_196 dX1_acts_1 ?_
  exact ret _ _ _ _ _ _ _ dX1_acts_4 Y ⟨rfl, rfl, rfl⟩
set_option maxHeartbeats 4000000 in
set_option maxRecDepth 100000 in
theorem ct_X1_clear (l : Launch) (g : uG) (t : uN) (f : uF)   : cF_v l yX1_clear cX1_clear 1 1 g [.ref (g.1 + 21)] t f (up2 t 21 2 0) (f) := by
  refine eF_v (by decide +kernel) (Nat.le_of_ble_eq_true rfl) ?_
  intro p e R s m args below meth c Q ls H locs X Y hl ret
  have X : uX p 1 R s m args c cX1_clear 1 RX1 := X
  have hl : lv_has ls 1 [(0, .ref (g.1 + 21))] := hl
  refine r_aload_n X dX1_clear_0 hl 0 rfl ?_
  refine r_iconst X dX1_clear_1 ?_
  refine p_1_2 (k := 21) X Y rfl wm_196 dX1_clear_2 (fun H locs Y => ?_)
  obtain ⟨tq1, htq1⟩ : ∃ q, q = up2 t 21 2 (0) := ⟨_, rfl⟩
  have Y : uY g 117 (cX g tq1 f) s H locs := by rw [htq1]; exact Y
  exact ret _ _ _ _ _ _ dX1_clear_5 Y (by subst htq1; exact ⟨rfl, rfl⟩)
set_option maxHeartbeats 4000000 in
set_option maxRecDepth 100000 in
theorem ct_X1_slotOf (l : Launch) (g : uG) (t : uN) (f : uF) (i : Int) (h0 : 0 ≤ i) (h1 : i < 20) : cF_q l yX1_slotOf cX1_slotOf 2 "BottomryLoans$She" 1 g [.ref (g.1 + 21), .int (iV (i))] t f (some (g.1 + (23 + 3 * i.toNat))) (t) (f) := by
  refine eF_q (by decide +kernel) (Nat.le_of_ble_eq_true rfl) ?_
  intro p e R s m args below meth c Q ls H locs X Y hl ret
  have X : uX p 1 R s m args c cX1_slotOf 2 RX1 := X
  have hl : lv_has ls 2 [(0, .ref (g.1 + 21)), (1, .int (iV (i)))] := hl
  refine r_iload_n X dX1_slotOf_0 hl 1 rfl ?_
  refine r_if_lt X (tgt := 22) dX1_slotOf_1 (by decide) ⟨by omega, by omega⟩ (fun c1 => ?_) (fun c1 => ?_)
  · exact absurd c1 (by omega)
  · refine r_iload_n X dX1_slotOf_4 hl 1 rfl ?_
    refine r_aload_n X dX1_slotOf_5 hl 0 rfl ?_
    refine g_1_0 (k := 21) X Y rfl wm_194 dX1_slotOf_6 ?_
    refine g_alen (k := 22) X Y rfl dX1_slotOf_9 ?_
    refine r_icmp_ge X (tgt := 22) dX1_slotOf_10 (by decide) ⟨by omega, by omega⟩ ⟨by omega, by omega⟩ (fun c10 => ?_) (fun c10 => ?_)
    · exact absurd c10 (by omega)
    · refine r_aload_n X dX1_slotOf_13 hl 0 rfl ?_
      refine g_1_0 (k := 21) X Y rfl wm_194 dX1_slotOf_14 ?_
      refine r_iload_n X dX1_slotOf_17 hl 1 rfl ?_
      refine g_ald (k := 22) X Y rfl (by omega) (by omega) dX1_slotOf_18 ?_
      refine r_goto X 23 dX1_slotOf_19 (by decide) ?_
      exact ret _ _ _ _ _ _ _ dX1_slotOf_23 Y ⟨rfl, rfl, rfl⟩
set_option maxHeartbeats 4000000 in
set_option maxRecDepth 100000 in
theorem ct_X1_put (l : Launch) (g : uG) (t : uN) (f : uF)  (h0 : 0 ≤ t 21 1) (h1 : t 21 1 < 20) (h2 : 0 ≤ t 21 2) (h3 : t 21 2 ≤ 20) (hs : tOK t (23 + 3 * (t 21 1).toNat + 1)) (hn : tOK t 19) (h4 : t 18 4 = 0 ∨ t 18 4 = 1) : cF_v l yX1_put cX1_put 3 4 g [.ref (g.1 + 21), .ref (g.1 + 18)] t f (putT t) (putF t f) := by
  refine eF_v (by decide +kernel) (Nat.le_of_ble_eq_true rfl) ?_
  intro p e R s m args below meth c Q ls H locs X Y hl ret
  have X : uX p 4 R s m args c cX1_put 3 RX1 := X
  have hl : lv_has ls 3 [(0, .ref (g.1 + 21)), (1, .ref (g.1 + 18))] := hl
  have e0 : 18 ≠ 23 + 3 * (t 21 1).toNat := by omega
  refine r_aload_n X dX1_put_0 hl 0 rfl ?_
  refine r_aload_n X dX1_put_1 hl 0 rfl ?_
  refine g_1_1 (k := 21) X Y rfl wm_195 dX1_put_2 ?_
  refine vF_q X Y [.int (iV (t 21 1))] [] (ct_X1_slotOf l g t f (t 21 1) (by omega) (by omega)) mk_X1_slotOf mi_X1_slotOf wm_519 (by decide) (rv_1 Y rfl) rfl hl (Nat.le_of_ble_eq_true rfl) rfl dX1_put_5 (Nat.zero_le _) (Nat.zero_le _) (fun H locs Y => ?_)
  refine r_astore_n X dX1_put_8 hl [(2, .ref (g.1 + (23+3*(t 21 1 : Int).toNat))), (0, .ref (g.1 + 21)), (1, .ref (g.1 + 18))] (by decide) rfl (fun ls hl => ?_)
  refine r_aload_n X dX1_put_9 hl 0 rfl ?_
  refine r_ifnull X dX1_put_10 ?_
  refine r_aload_n X dX1_put_13 hl 0 rfl ?_
  refine r_aload_n X dX1_put_14 hl 2 rfl ?_
  refine vF_v X Y [.ref (g.1 + 18)] [] (ct_X4_become l g t f (23+3*(t 21 1 : Int).toNat) 18 (kd_ring (by omega)) rfl e0 hs hn h4) mk_X4_become mi_X4_become wm_523 (by decide) (rv_4 Y (kd_ring (by omega))) rfl hl (Nat.le_of_ble_eq_true rfl) rfl dX1_put_15 (Nat.zero_le _) (Nat.zero_le _) (fun H locs Y => ?_)
  obtain ⟨tq1, htq1⟩ : ∃ q, q = sheCp t (23+3*(t 21 1 : Int).toNat) 18 := ⟨_, rfl⟩
  obtain ⟨fq2, hfq2⟩ : ∃ q, q = cpA f (18 + 2) ((23+3*(t 21 1 : Int).toNat) + 2) 40 := ⟨_, rfl⟩
  have Y : uY g 117 (cX g tq1 fq2) s H locs := by rw [htq1, hfq2]; exact Y
  have e1 : tq1 21 1 = t 21 1 := by rw [htq1]; exact sheCp_off (by omega) (by omega) 1
  have e2 : tq1 21 2 = t 21 2 := by rw [htq1]; exact sheCp_off (by omega) (by omega) 2
  refine r_aload_n X dX1_put_18 hl 1 rfl ?_
  refine r_aload_n X dX1_put_19 hl 1 rfl ?_
  refine g_1_1 (k := 21) X Y rfl wm_195 dX1_put_20 ?_
  refine r_iconst X dX1_put_23 ?_
  refine r_iadd X dX1_put_24 ?_
  refine r_bipush X 20 dX1_put_25 (by decide) ?_
  refine r_icmp_ge X (tgt := 39) dX1_put_27 (by decide) ⟨by omega, by omega⟩ ⟨by omega, by omega⟩ (fun c27 => ?_) (fun c27 => ?_)
  · refine r_iconst X dX1_put_39 ?_
    refine p_1_1 (k := 21) X Y rfl wm_195 dX1_put_40 (fun H locs Y => ?_)
    obtain ⟨tq3, htq3⟩ : ∃ q, q = up2 tq1 21 1 (0) := ⟨_, rfl⟩
    have Y : uY g 117 (cX g tq3 fq2) s H locs := by rw [htq3]; exact Y
    refine r_aload_n X dX1_put_43 hl 1 rfl ?_
    refine r_bipush X 20 dX1_put_44 (by decide) ?_
    refine r_aload_n X dX1_put_46 hl 1 rfl ?_
    refine g_1_2 (k := 21) X Y rfl wm_196 dX1_put_47 ?_
    refine r_iconst X dX1_put_50 ?_
    refine r_iadd X dX1_put_51 ?_
    have e3 : tq3 21 2 = t 21 2 := by rw [htq3, up2_j _ _ _ (by decide)]; exact e2
    refine r_min X hl (by decide) (Nat.zero_le _) (Nat.zero_le _) wm_528 (Nat.le_of_ble_eq_true rfl) dX1_put_52 ⟨by omega, by omega⟩ ⟨by omega, by omega⟩ ?_
    refine p_1_2 (k := 21) X Y rfl wm_196 dX1_put_55 (fun H locs Y => ?_)
    obtain ⟨tq4, htq4⟩ : ∃ q, q = up2 tq3 21 2 (min 20 ((tq3 21 2) + 1)) := ⟨_, rfl⟩
    have Y : uY g 117 (cX g tq4 fq2) s H locs := by rw [htq4]; exact Y
    exact ret _ _ _ _ _ _ dX1_put_58 Y ⟨by rw [htq4, htq3]; unfold putT; rw [← htq1]; simp only []; first | rw [if_pos (by omega)] | rw [if_neg (by omega)], by rw [hfq2]; rfl⟩
  · refine r_aload_n X dX1_put_30 hl 1 rfl ?_
    refine g_1_1 (k := 21) X Y rfl wm_195 dX1_put_31 ?_
    refine r_iconst X dX1_put_34 ?_
    refine r_iadd X dX1_put_35 ?_
    refine r_goto X 40 dX1_put_36 (by decide) ?_
    refine p_1_1 (k := 21) X Y rfl wm_195 dX1_put_40 (fun H locs Y => ?_)
    obtain ⟨tq3, htq3⟩ : ∃ q, q = up2 tq1 21 1 ((tq1 21 1) + 1) := ⟨_, rfl⟩
    have Y : uY g 117 (cX g tq3 fq2) s H locs := by rw [htq3]; exact Y
    refine r_aload_n X dX1_put_43 hl 1 rfl ?_
    refine r_bipush X 20 dX1_put_44 (by decide) ?_
    refine r_aload_n X dX1_put_46 hl 1 rfl ?_
    refine g_1_2 (k := 21) X Y rfl wm_196 dX1_put_47 ?_
    refine r_iconst X dX1_put_50 ?_
    refine r_iadd X dX1_put_51 ?_
    have e3 : tq3 21 2 = t 21 2 := by rw [htq3, up2_j _ _ _ (by decide)]; exact e2
    refine r_min X hl (by decide) (Nat.zero_le _) (Nat.zero_le _) wm_528 (Nat.le_of_ble_eq_true rfl) dX1_put_52 ⟨by omega, by omega⟩ ⟨by omega, by omega⟩ ?_
    refine p_1_2 (k := 21) X Y rfl wm_196 dX1_put_55 (fun H locs Y => ?_)
    obtain ⟨tq4, htq4⟩ : ∃ q, q = up2 tq3 21 2 (min 20 ((tq3 21 2) + 1)) := ⟨_, rfl⟩
    have Y : uY g 117 (cX g tq4 fq2) s H locs := by rw [htq4]; exact Y
    exact ret _ _ _ _ _ _ dX1_put_58 Y ⟨by rw [htq4, htq3]; unfold putT; rw [← htq1]; simp only []; first | rw [if_pos (by omega)] | rw [if_neg (by omega)], by rw [hfq2]; rfl⟩
set_option maxHeartbeats 4000000 in
set_option maxRecDepth 100000 in
theorem ct_X1_takeBack (l : Launch) (g : uG) (t : uN) (f : uF)  (h0 : 0 ≤ t 21 1) (h1 : t 21 1 < 20) (h2 : 0 < t 21 2) (h3 : t 21 2 ≤ 20) (hs : tOK t (23 + 3 * (latC t).toNat + 1)) (hn : tOK t 19) (h4 : t (23 + 3 * (latC t).toNat) 4 = 0 ∨ t (23 + 3 * (latC t).toNat) 4 = 1) : cF_v l yX1_takeBack cX1_takeBack 4 4 g [.ref (g.1 + 21), .ref (g.1 + 18)] t f (takT t) (takF t f) := by
  refine eF_v (by decide +kernel) (Nat.le_of_ble_eq_true rfl) ?_
  intro p e R s m args below meth c Q ls H locs X Y hl ret
  have X : uX p 4 R s m args c cX1_takeBack 4 RX1 := X
  have hl : lv_has ls 4 [(0, .ref (g.1 + 21)), (1, .ref (g.1 + 18))] := hl
  refine r_aload_n X dX1_takeBack_0 hl 0 rfl ?_
  refine g_1_1 (k := 21) X Y rfl wm_195 dX1_takeBack_1 ?_
  refine r_if_le X (tgt := 16) dX1_takeBack_4 (by decide) ⟨by omega, by omega⟩ (fun c4 => ?_) (fun c4 => ?_)
  · have el : latC t = 19 := by unfold latC; rw [if_neg (by omega)]
    rw [el] at hs h4
    refine r_bipush X 19 dX1_takeBack_16 (by decide) ?_
    refine r_istore_n X dX1_takeBack_18 hl [(2, .int (iV (19))), (0, .ref (g.1 + 21)), (1, .ref (g.1 + 18))] (by decide) rfl (fun ls hl => ?_)
    refine r_aload_n X dX1_takeBack_19 hl 1 rfl ?_
    refine r_iload_n X dX1_takeBack_20 hl 0 rfl ?_
    refine vF_q X Y [.int (iV (19))] [] (ct_X1_slotOf l g t f 19 (by omega) (by omega)) mk_X1_slotOf mi_X1_slotOf wm_519 (by decide) (rv_1 Y rfl) rfl hl (Nat.le_of_ble_eq_true rfl) rfl dX1_takeBack_21 (Nat.zero_le _) (Nat.zero_le _) (fun H locs Y => ?_)
    refine r_astore_n X dX1_takeBack_24 hl [(3, .ref (g.1 + (23+3*(19 : Int).toNat))), (2, .int (iV (19))), (0, .ref (g.1 + 21)), (1, .ref (g.1 + 18))] (by decide) rfl (fun ls hl => ?_)
    refine r_aload_n X dX1_takeBack_25 hl 0 rfl ?_
    refine r_ifnull X dX1_takeBack_26 ?_
    refine r_aload_n X dX1_takeBack_29 hl 2 rfl ?_
    refine g_1_2 (k := 21) X Y rfl wm_196 dX1_takeBack_30 ?_
    refine r_if_le X (tgt := 56) dX1_takeBack_33 (by decide) ⟨by omega, by omega⟩ (fun c33 => ?_) (fun c33 => ?_)
    · exact absurd c33 (by omega)
    · refine r_aload_n X dX1_takeBack_36 hl 3 rfl ?_
      refine r_aload_n X dX1_takeBack_37 hl 0 rfl ?_
      refine vF_v X Y [.ref (g.1 + (23+3*(19 : Int).toNat))] [] (ct_X4_become l g t f 18 (23+3*(19 : Int).toNat) rfl (kd_ring (by omega)) (by omega) hn hs h4) mk_X4_become mi_X4_become wm_523 (by decide) (rv_4 Y rfl) rfl hl (Nat.le_of_ble_eq_true rfl) rfl dX1_takeBack_38 (Nat.zero_le _) (Nat.zero_le _) (fun H locs Y => ?_)
      obtain ⟨tq1, htq1⟩ : ∃ q, q = sheCp t 18 (23+3*(19 : Int).toNat) := ⟨_, rfl⟩
      obtain ⟨fq2, hfq2⟩ : ∃ q, q = cpA f ((23+3*(19 : Int).toNat) + 2) (18 + 2) 40 := ⟨_, rfl⟩
      have Y : uY g 117 (cX g tq1 fq2) s H locs := by rw [htq1, hfq2]; exact Y
      have e1 : tq1 21 2 = t 21 2 := by rw [htq1]; exact sheCp_off (by decide) (by decide) 2
      refine r_aload_n X dX1_takeBack_41 hl 2 rfl ?_
      refine r_iload_n X dX1_takeBack_42 hl 1 rfl ?_
      refine p_1_1 (k := 21) X Y rfl wm_195 dX1_takeBack_43 (fun H locs Y => ?_)
      obtain ⟨tq3, htq3⟩ : ∃ q, q = up2 tq1 21 1 (19) := ⟨_, rfl⟩
      have Y : uY g 117 (cX g tq3 fq2) s H locs := by rw [htq3]; exact Y
      refine r_aload_n X dX1_takeBack_46 hl 2 rfl ?_
      refine r_dup X dX1_takeBack_47 rfl ?_
      refine g_1_2 (k := 21) X Y rfl wm_196 dX1_takeBack_48 ?_
      refine r_iconst X dX1_takeBack_51 ?_
      refine r_isub X dX1_takeBack_52 ?_
      refine p_1_2 (k := 21) X Y rfl wm_196 dX1_takeBack_53 (fun H locs Y => ?_)
      obtain ⟨tq4, htq4⟩ : ∃ q, q = up2 tq3 21 2 ((tq3 21 2) - 1) := ⟨_, rfl⟩
      have Y : uY g 117 (cX g tq4 fq2) s H locs := by rw [htq4]; exact Y
      exact ret _ _ _ _ _ _ dX1_takeBack_56 Y ⟨by unfold takT; rw [el, htq4, htq3, htq1], by unfold takF; rw [el, hfq2]⟩
  · have el : latC t = t 21 1 - 1 := by unfold latC; rw [if_pos (by omega)]
    rw [el] at hs h4
    refine r_aload_n X dX1_takeBack_7 hl 0 rfl ?_
    refine g_1_1 (k := 21) X Y rfl wm_195 dX1_takeBack_8 ?_
    refine r_iconst X dX1_takeBack_11 ?_
    refine r_isub X dX1_takeBack_12 ?_
    refine r_goto X 18 dX1_takeBack_13 (by decide) ?_
    refine r_istore_n X dX1_takeBack_18 hl [(2, .int (iV ((t 21 1) - 1))), (0, .ref (g.1 + 21)), (1, .ref (g.1 + 18))] (by decide) rfl (fun ls hl => ?_)
    refine r_aload_n X dX1_takeBack_19 hl 1 rfl ?_
    refine r_iload_n X dX1_takeBack_20 hl 0 rfl ?_
    refine vF_q X Y [.int (iV ((t 21 1) - 1))] [] (ct_X1_slotOf l g t f ((t 21 1) - 1) (by omega) (by omega)) mk_X1_slotOf mi_X1_slotOf wm_519 (by decide) (rv_1 Y rfl) rfl hl (Nat.le_of_ble_eq_true rfl) rfl dX1_takeBack_21 (Nat.zero_le _) (Nat.zero_le _) (fun H locs Y => ?_)
    refine r_astore_n X dX1_takeBack_24 hl [(3, .ref (g.1 + (23+3*((t 21 1) - 1 : Int).toNat))), (2, .int (iV ((t 21 1) - 1))), (0, .ref (g.1 + 21)), (1, .ref (g.1 + 18))] (by decide) rfl (fun ls hl => ?_)
    refine r_aload_n X dX1_takeBack_25 hl 0 rfl ?_
    refine r_ifnull X dX1_takeBack_26 ?_
    refine r_aload_n X dX1_takeBack_29 hl 2 rfl ?_
    refine g_1_2 (k := 21) X Y rfl wm_196 dX1_takeBack_30 ?_
    refine r_if_le X (tgt := 56) dX1_takeBack_33 (by decide) ⟨by omega, by omega⟩ (fun c33 => ?_) (fun c33 => ?_)
    · exact absurd c33 (by omega)
    · refine r_aload_n X dX1_takeBack_36 hl 3 rfl ?_
      refine r_aload_n X dX1_takeBack_37 hl 0 rfl ?_
      refine vF_v X Y [.ref (g.1 + (23+3*((t 21 1) - 1 : Int).toNat))] [] (ct_X4_become l g t f 18 (23+3*((t 21 1) - 1 : Int).toNat) rfl (kd_ring (by omega)) (by omega) hn hs h4) mk_X4_become mi_X4_become wm_523 (by decide) (rv_4 Y rfl) rfl hl (Nat.le_of_ble_eq_true rfl) rfl dX1_takeBack_38 (Nat.zero_le _) (Nat.zero_le _) (fun H locs Y => ?_)
      obtain ⟨tq1, htq1⟩ : ∃ q, q = sheCp t 18 (23+3*((t 21 1) - 1 : Int).toNat) := ⟨_, rfl⟩
      obtain ⟨fq2, hfq2⟩ : ∃ q, q = cpA f ((23+3*((t 21 1) - 1 : Int).toNat) + 2) (18 + 2) 40 := ⟨_, rfl⟩
      have Y : uY g 117 (cX g tq1 fq2) s H locs := by rw [htq1, hfq2]; exact Y
      have e1 : tq1 21 2 = t 21 2 := by rw [htq1]; exact sheCp_off (by decide) (by decide) 2
      refine r_aload_n X dX1_takeBack_41 hl 2 rfl ?_
      refine r_iload_n X dX1_takeBack_42 hl 1 rfl ?_
      refine p_1_1 (k := 21) X Y rfl wm_195 dX1_takeBack_43 (fun H locs Y => ?_)
      obtain ⟨tq3, htq3⟩ : ∃ q, q = up2 tq1 21 1 ((t 21 1) - 1) := ⟨_, rfl⟩
      have Y : uY g 117 (cX g tq3 fq2) s H locs := by rw [htq3]; exact Y
      refine r_aload_n X dX1_takeBack_46 hl 2 rfl ?_
      refine r_dup X dX1_takeBack_47 rfl ?_
      refine g_1_2 (k := 21) X Y rfl wm_196 dX1_takeBack_48 ?_
      refine r_iconst X dX1_takeBack_51 ?_
      refine r_isub X dX1_takeBack_52 ?_
      refine p_1_2 (k := 21) X Y rfl wm_196 dX1_takeBack_53 (fun H locs Y => ?_)
      obtain ⟨tq4, htq4⟩ : ∃ q, q = up2 tq3 21 2 ((tq3 21 2) - 1) := ⟨_, rfl⟩
      have Y : uY g 117 (cX g tq4 fq2) s H locs := by rw [htq4]; exact Y
      exact ret _ _ _ _ _ _ dX1_takeBack_56 Y ⟨by unfold takT; rw [el, htq4, htq3, htq1], by unfold takF; rw [el, hfq2]⟩
end
