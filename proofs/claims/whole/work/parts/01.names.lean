-- ===== PART A: goes FIRST, ahead of the names: the tables' words, and 'selects' of the private methods out of them =====
/-- a private method of a class that the tables say can be made, by its rows of tables_1 -/
def lw_okq (q : MethodName × Nat) : Prop := (q.1.cls ≠ "java/lang/invoke/MethodHandle" ∧ q.1.cls ≠ "java/lang/invoke/VarHandle") ∧ Cond.instantiable q.1.cls q.2 ∈ tables_1 ∧ Cond.privateMethod q.1 ∈ tables_1 ∧ Cond.instanceMethod q.1 ∈ tables_1
theorem lw_p0 : lw_okq (⟨"FirstColour$Reader", "next", "()V"⟩, 10) := ⟨⟨by decide +kernel, by decide +kernel⟩, List.mem_of_getElem? (i := 88) (by decide +kernel), List.mem_of_getElem? (i := 193) (by decide +kernel), List.mem_of_getElem? (i := 194) (by decide +kernel)⟩
theorem lw_p1 : lw_okq (⟨"FirstColour$Reader", "readWord", "()V"⟩, 10) := ⟨⟨by decide +kernel, by decide +kernel⟩, List.mem_of_getElem? (i := 88) (by decide +kernel), List.mem_of_getElem? (i := 200) (by decide +kernel), List.mem_of_getElem? (i := 201) (by decide +kernel)⟩
theorem lw_p2 : lw_okq (⟨"FirstColour$Reader", "standsAtPlace", "(Ljava/lang/String;)Z"⟩, 10) := ⟨⟨by decide +kernel, by decide +kernel⟩, List.mem_of_getElem? (i := 88) (by decide +kernel), List.mem_of_getElem? (i := 219) (by decide +kernel), List.mem_of_getElem? (i := 220) (by decide +kernel)⟩
theorem lw_p3 : lw_okq (⟨"FirstColour$Reader", "fail", "()V"⟩, 10) := ⟨⟨by decide +kernel, by decide +kernel⟩, List.mem_of_getElem? (i := 88) (by decide +kernel), List.mem_of_getElem? (i := 225) (by decide +kernel), List.mem_of_getElem? (i := 226) (by decide +kernel)⟩
theorem lw_p4 : lw_okq (⟨"FirstColour$Reader", "readNumber", "()V"⟩, 10) := ⟨⟨by decide +kernel, by decide +kernel⟩, List.mem_of_getElem? (i := 88) (by decide +kernel), List.mem_of_getElem? (i := 232) (by decide +kernel), List.mem_of_getElem? (i := 233) (by decide +kernel)⟩
theorem lw_p5 : lw_okq (⟨"FirstColour$Reader", "expect", "(I)V"⟩, 10) := ⟨⟨by decide +kernel, by decide +kernel⟩, List.mem_of_getElem? (i := 88) (by decide +kernel), List.mem_of_getElem? (i := 239) (by decide +kernel), List.mem_of_getElem? (i := 240) (by decide +kernel)⟩
theorem lw_p6 : lw_okq (⟨"FirstColour$Reader", "readOr", "(I)V"⟩, 10) := ⟨⟨by decide +kernel, by decide +kernel⟩, List.mem_of_getElem? (i := 88) (by decide +kernel), List.mem_of_getElem? (i := 243) (by decide +kernel), List.mem_of_getElem? (i := 244) (by decide +kernel)⟩
theorem lw_p7 : lw_okq (⟨"FirstColour$Reader", "readAnd", "(I)V"⟩, 10) := ⟨⟨by decide +kernel, by decide +kernel⟩, List.mem_of_getElem? (i := 88) (by decide +kernel), List.mem_of_getElem? (i := 247) (by decide +kernel), List.mem_of_getElem? (i := 248) (by decide +kernel)⟩
theorem lw_p8 : lw_okq (⟨"FirstColour$Reader", "readNot", "(I)V"⟩, 10) := ⟨⟨by decide +kernel, by decide +kernel⟩, List.mem_of_getElem? (i := 88) (by decide +kernel), List.mem_of_getElem? (i := 251) (by decide +kernel), List.mem_of_getElem? (i := 252) (by decide +kernel)⟩
theorem lw_p9 : lw_okq (⟨"FirstColour$Reader", "mayOpen", "(I)Z"⟩, 10) := ⟨⟨by decide +kernel, by decide +kernel⟩, List.mem_of_getElem? (i := 88) (by decide +kernel), List.mem_of_getElem? (i := 255) (by decide +kernel), List.mem_of_getElem? (i := 256) (by decide +kernel)⟩
theorem lw_p10 : lw_okq (⟨"FirstColour$Reader", "addStep", "(I)V"⟩, 10) := ⟨⟨by decide +kernel, by decide +kernel⟩, List.mem_of_getElem? (i := 88) (by decide +kernel), List.mem_of_getElem? (i := 259) (by decide +kernel), List.mem_of_getElem? (i := 260) (by decide +kernel)⟩
theorem lw_p11 : lw_okq (⟨"FirstColour$Reader", "readSum", "(I)V"⟩, 10) := ⟨⟨by decide +kernel, by decide +kernel⟩, List.mem_of_getElem? (i := 88) (by decide +kernel), List.mem_of_getElem? (i := 263) (by decide +kernel), List.mem_of_getElem? (i := 264) (by decide +kernel)⟩
theorem lw_p12 : lw_okq (⟨"FirstColour$Reader", "readTerm", "(I)V"⟩, 10) := ⟨⟨by decide +kernel, by decide +kernel⟩, List.mem_of_getElem? (i := 88) (by decide +kernel), List.mem_of_getElem? (i := 267) (by decide +kernel), List.mem_of_getElem? (i := 268) (by decide +kernel)⟩
theorem lw_p13 : lw_okq (⟨"FirstColour$Reader", "readOne", "(I)V"⟩, 10) := ⟨⟨by decide +kernel, by decide +kernel⟩, List.mem_of_getElem? (i := 88) (by decide +kernel), List.mem_of_getElem? (i := 271) (by decide +kernel), List.mem_of_getElem? (i := 272) (by decide +kernel)⟩
theorem lw_p14 : lw_okq (⟨"FirstColour$Texts", "valueOf", "([III)I"⟩, 8) := ⟨⟨by decide +kernel, by decide +kernel⟩, List.mem_of_getElem? (i := 82) (by decide +kernel), List.mem_of_getElem? (i := 468) (by decide +kernel), List.mem_of_getElem? (i := 469) (by decide +kernel)⟩
theorem lw_p15 : lw_okq (⟨"FirstColour", "refusalOfLane", "(II)I"⟩, 9) := ⟨⟨by decide +kernel, by decide +kernel⟩, List.mem_of_getElem? (i := 20) (by decide +kernel), List.mem_of_getElem? (i := 571) (by decide +kernel), List.mem_of_getElem? (i := 572) (by decide +kernel)⟩
def lw_privs_1 : List (MethodName × Nat) := [(⟨"FirstColour$Reader", "next", "()V"⟩, 10), (⟨"FirstColour$Reader", "readWord", "()V"⟩, 10), (⟨"FirstColour$Reader", "standsAtPlace", "(Ljava/lang/String;)Z"⟩, 10), (⟨"FirstColour$Reader", "fail", "()V"⟩, 10), (⟨"FirstColour$Reader", "readNumber", "()V"⟩, 10), (⟨"FirstColour$Reader", "expect", "(I)V"⟩, 10), (⟨"FirstColour$Reader", "readOr", "(I)V"⟩, 10), (⟨"FirstColour$Reader", "readAnd", "(I)V"⟩, 10), (⟨"FirstColour$Reader", "readNot", "(I)V"⟩, 10), (⟨"FirstColour$Reader", "mayOpen", "(I)Z"⟩, 10), (⟨"FirstColour$Reader", "addStep", "(I)V"⟩, 10), (⟨"FirstColour$Reader", "readSum", "(I)V"⟩, 10), (⟨"FirstColour$Reader", "readTerm", "(I)V"⟩, 10), (⟨"FirstColour$Reader", "readOne", "(I)V"⟩, 10), (⟨"FirstColour$Texts", "valueOf", "([III)I"⟩, 8), (⟨"FirstColour", "refusalOfLane", "(II)I"⟩, 9)]
theorem lw_r1 : ∀ q ∈ lw_privs_1, lw_okq q := List.forall_mem_cons.mpr ⟨lw_p0, List.forall_mem_cons.mpr ⟨lw_p1, List.forall_mem_cons.mpr ⟨lw_p2, List.forall_mem_cons.mpr ⟨lw_p3, List.forall_mem_cons.mpr ⟨lw_p4, List.forall_mem_cons.mpr ⟨lw_p5, List.forall_mem_cons.mpr ⟨lw_p6, List.forall_mem_cons.mpr ⟨lw_p7, List.forall_mem_cons.mpr ⟨lw_p8, List.forall_mem_cons.mpr ⟨lw_p9, List.forall_mem_cons.mpr ⟨lw_p10, List.forall_mem_cons.mpr ⟨lw_p11, List.forall_mem_cons.mpr ⟨lw_p12, List.forall_mem_cons.mpr ⟨lw_p13, List.forall_mem_cons.mpr ⟨lw_p14, List.forall_mem_cons.mpr ⟨lw_p15, fun _ h => absurd h List.not_mem_nil⟩⟩⟩⟩⟩⟩⟩⟩⟩⟩⟩⟩⟩⟩⟩⟩
theorem lw_p16 : lw_okq (⟨"FirstColour", "movesInThought", "(III)I"⟩, 9) := ⟨⟨by decide +kernel, by decide +kernel⟩, List.mem_of_getElem? (i := 20) (by decide +kernel), List.mem_of_getElem? (i := 609) (by decide +kernel), List.mem_of_getElem? (i := 610) (by decide +kernel)⟩
theorem lw_p17 : lw_okq (⟨"FirstColour$Search", "canBeBetter", "(II)Z"⟩, 3) := ⟨⟨by decide +kernel, by decide +kernel⟩, List.mem_of_getElem? (i := 345) (by decide +kernel), List.mem_of_getElem? (i := 635) (by decide +kernel), List.mem_of_getElem? (i := 636) (by decide +kernel)⟩
theorem lw_p18 : lw_okq (⟨"FirstColour", "refusalOfOrder", "(II)I"⟩, 9) := ⟨⟨by decide +kernel, by decide +kernel⟩, List.mem_of_getElem? (i := 20) (by decide +kernel), List.mem_of_getElem? (i := 660) (by decide +kernel), List.mem_of_getElem? (i := 661) (by decide +kernel)⟩
theorem lw_p19 : lw_okq (⟨"FirstColour$Order", "append", "(I)V"⟩, 2) := ⟨⟨by decide +kernel, by decide +kernel⟩, List.mem_of_getElem? (i := 328) (by decide +kernel), List.mem_of_getElem? (i := 684) (by decide +kernel), List.mem_of_getElem? (i := 685) (by decide +kernel)⟩
theorem lw_p20 : lw_okq (⟨"FirstColour", "worthInOrder", "(I)I"⟩, 9) := ⟨⟨by decide +kernel, by decide +kernel⟩, List.mem_of_getElem? (i := 20) (by decide +kernel), List.mem_of_getElem? (i := 725) (by decide +kernel), List.mem_of_getElem? (i := 726) (by decide +kernel)⟩
theorem lw_p21 : lw_okq (⟨"FirstColour", "refusalOfMap", "(I)I"⟩, 9) := ⟨⟨by decide +kernel, by decide +kernel⟩, List.mem_of_getElem? (i := 20) (by decide +kernel), List.mem_of_getElem? (i := 760) (by decide +kernel), List.mem_of_getElem? (i := 761) (by decide +kernel)⟩
theorem lw_p22 : lw_okq (⟨"FirstColour", "firstOtherwise", "(II)I"⟩, 9) := ⟨⟨by decide +kernel, by decide +kernel⟩, List.mem_of_getElem? (i := 20) (by decide +kernel), List.mem_of_getElem? (i := 764) (by decide +kernel), List.mem_of_getElem? (i := 765) (by decide +kernel)⟩
theorem lw_p23 : lw_okq (⟨"FirstColour", "coloursDrawn", "(I)I"⟩, 9) := ⟨⟨by decide +kernel, by decide +kernel⟩, List.mem_of_getElem? (i := 20) (by decide +kernel), List.mem_of_getElem? (i := 797) (by decide +kernel), List.mem_of_getElem? (i := 798) (by decide +kernel)⟩
theorem lw_p24 : lw_okq (⟨"FirstColourModel", "next", "()V"⟩, 39) := ⟨⟨by decide +kernel, by decide +kernel⟩, List.mem_of_getElem? (i := 854) (by decide +kernel), List.mem_of_getElem? (i := 864) (by decide +kernel), List.mem_of_getElem? (i := 865) (by decide +kernel)⟩
theorem lw_p25 : lw_okq (⟨"FirstColourModel", "wordFrom", "(II)I"⟩, 39) := ⟨⟨by decide +kernel, by decide +kernel⟩, List.mem_of_getElem? (i := 854) (by decide +kernel), List.mem_of_getElem? (i := 871) (by decide +kernel), List.mem_of_getElem? (i := 872) (by decide +kernel)⟩
theorem lw_p26 : lw_okq (⟨"FirstColourModel", "eRead", "()Z"⟩, 39) := ⟨⟨by decide +kernel, by decide +kernel⟩, List.mem_of_getElem? (i := 854) (by decide +kernel), List.mem_of_getElem? (i := 875) (by decide +kernel), List.mem_of_getElem? (i := 876) (by decide +kernel)⟩
theorem lw_p27 : lw_okq (⟨"FirstColourModel", "puts", "(I)V"⟩, 39) := ⟨⟨by decide +kernel, by decide +kernel⟩, List.mem_of_getElem? (i := 854) (by decide +kernel), List.mem_of_getElem? (i := 880) (by decide +kernel), List.mem_of_getElem? (i := 881) (by decide +kernel)⟩
theorem lw_p28 : lw_okq (⟨"FirstColourModel", "unwinds", "(I)V"⟩, 39) := ⟨⟨by decide +kernel, by decide +kernel⟩, List.mem_of_getElem? (i := 854) (by decide +kernel), List.mem_of_getElem? (i := 884) (by decide +kernel), List.mem_of_getElem? (i := 885) (by decide +kernel)⟩
theorem lw_p29 : lw_okq (⟨"FirstColourModel", "opensOne", "(I)Z"⟩, 39) := ⟨⟨by decide +kernel, by decide +kernel⟩, List.mem_of_getElem? (i := 854) (by decide +kernel), List.mem_of_getElem? (i := 891) (by decide +kernel), List.mem_of_getElem? (i := 892) (by decide +kernel)⟩
theorem lw_p30 : lw_okq (⟨"FirstColourModel", "holds", "(I)V"⟩, 39) := ⟨⟨by decide +kernel, by decide +kernel⟩, List.mem_of_getElem? (i := 854) (by decide +kernel), List.mem_of_getElem? (i := 895) (by decide +kernel), List.mem_of_getElem? (i := 896) (by decide +kernel)⟩
theorem lw_p31 : lw_okq (⟨"FirstColourModel", "signOf", "()I"⟩, 39) := ⟨⟨by decide +kernel, by decide +kernel⟩, List.mem_of_getElem? (i := 854) (by decide +kernel), List.mem_of_getElem? (i := 899) (by decide +kernel), List.mem_of_getElem? (i := 900) (by decide +kernel)⟩
def lw_privs_2 : List (MethodName × Nat) := [(⟨"FirstColour", "movesInThought", "(III)I"⟩, 9), (⟨"FirstColour$Search", "canBeBetter", "(II)Z"⟩, 3), (⟨"FirstColour", "refusalOfOrder", "(II)I"⟩, 9), (⟨"FirstColour$Order", "append", "(I)V"⟩, 2), (⟨"FirstColour", "worthInOrder", "(I)I"⟩, 9), (⟨"FirstColour", "refusalOfMap", "(I)I"⟩, 9), (⟨"FirstColour", "firstOtherwise", "(II)I"⟩, 9), (⟨"FirstColour", "coloursDrawn", "(I)I"⟩, 9), (⟨"FirstColourModel", "next", "()V"⟩, 39), (⟨"FirstColourModel", "wordFrom", "(II)I"⟩, 39), (⟨"FirstColourModel", "eRead", "()Z"⟩, 39), (⟨"FirstColourModel", "puts", "(I)V"⟩, 39), (⟨"FirstColourModel", "unwinds", "(I)V"⟩, 39), (⟨"FirstColourModel", "opensOne", "(I)Z"⟩, 39), (⟨"FirstColourModel", "holds", "(I)V"⟩, 39), (⟨"FirstColourModel", "signOf", "()I"⟩, 39)]
theorem lw_r2 : ∀ q ∈ lw_privs_2, lw_okq q := List.forall_mem_cons.mpr ⟨lw_p16, List.forall_mem_cons.mpr ⟨lw_p17, List.forall_mem_cons.mpr ⟨lw_p18, List.forall_mem_cons.mpr ⟨lw_p19, List.forall_mem_cons.mpr ⟨lw_p20, List.forall_mem_cons.mpr ⟨lw_p21, List.forall_mem_cons.mpr ⟨lw_p22, List.forall_mem_cons.mpr ⟨lw_p23, List.forall_mem_cons.mpr ⟨lw_p24, List.forall_mem_cons.mpr ⟨lw_p25, List.forall_mem_cons.mpr ⟨lw_p26, List.forall_mem_cons.mpr ⟨lw_p27, List.forall_mem_cons.mpr ⟨lw_p28, List.forall_mem_cons.mpr ⟨lw_p29, List.forall_mem_cons.mpr ⟨lw_p30, List.forall_mem_cons.mpr ⟨lw_p31, fun _ h => absurd h List.not_mem_nil⟩⟩⟩⟩⟩⟩⟩⟩⟩⟩⟩⟩⟩⟩⟩⟩
theorem lw_p32 : lw_okq (⟨"FirstColourModel", "between", "(I)Z"⟩, 39) := ⟨⟨by decide +kernel, by decide +kernel⟩, List.mem_of_getElem? (i := 854) (by decide +kernel), List.mem_of_getElem? (i := 903) (by decide +kernel), List.mem_of_getElem? (i := 904) (by decide +kernel)⟩
theorem lw_p33 : lw_okq (⟨"FirstColourModel", "builtSet", "()I"⟩, 39) := ⟨⟨by decide +kernel, by decide +kernel⟩, List.mem_of_getElem? (i := 854) (by decide +kernel), List.mem_of_getElem? (i := 1029) (by decide +kernel), List.mem_of_getElem? (i := 1030) (by decide +kernel)⟩
theorem lw_p34 : lw_okq (⟨"FirstColourModel", "isBuilt", "(I)Z"⟩, 39) := ⟨⟨by decide +kernel, by decide +kernel⟩, List.mem_of_getElem? (i := 854) (by decide +kernel), List.mem_of_getElem? (i := 1033) (by decide +kernel), List.mem_of_getElem? (i := 1034) (by decide +kernel)⟩
theorem lw_p35 : lw_okq (⟨"FirstColourModel", "howMany", "()I"⟩, 39) := ⟨⟨by decide +kernel, by decide +kernel⟩, List.mem_of_getElem? (i := 854) (by decide +kernel), List.mem_of_getElem? (i := 1037) (by decide +kernel), List.mem_of_getElem? (i := 1038) (by decide +kernel)⟩
theorem lw_p36 : lw_okq (⟨"FirstColourModel", "pairs", "()I"⟩, 39) := ⟨⟨by decide +kernel, by decide +kernel⟩, List.mem_of_getElem? (i := 854) (by decide +kernel), List.mem_of_getElem? (i := 1044) (by decide +kernel), List.mem_of_getElem? (i := 1045) (by decide +kernel)⟩
theorem lw_p37 : lw_okq (⟨"FirstColourModel", "isLot", "(I)Z"⟩, 39) := ⟨⟨by decide +kernel, by decide +kernel⟩, List.mem_of_getElem? (i := 854) (by decide +kernel), List.mem_of_getElem? (i := 1064) (by decide +kernel), List.mem_of_getElem? (i := 1065) (by decide +kernel)⟩
theorem lw_p38 : lw_okq (⟨"FirstColourModel", "asksOf", "(IIII)I"⟩, 39) := ⟨⟨by decide +kernel, by decide +kernel⟩, List.mem_of_getElem? (i := 854) (by decide +kernel), List.mem_of_getElem? (i := 1068) (by decide +kernel), List.mem_of_getElem? (i := 1069) (by decide +kernel)⟩
theorem lw_p39 : lw_okq (⟨"FirstColourModel", "says", "(I)I"⟩, 39) := ⟨⟨by decide +kernel, by decide +kernel⟩, List.mem_of_getElem? (i := 854) (by decide +kernel), List.mem_of_getElem? (i := 1072) (by decide +kernel), List.mem_of_getElem? (i := 1073) (by decide +kernel)⟩
theorem lw_p40 : lw_okq (⟨"FirstColourModel", "all", "()I"⟩, 39) := ⟨⟨by decide +kernel, by decide +kernel⟩, List.mem_of_getElem? (i := 854) (by decide +kernel), List.mem_of_getElem? (i := 1086) (by decide +kernel), List.mem_of_getElem? (i := 1087) (by decide +kernel)⟩
theorem lw_p41 : lw_okq (⟨"FirstColourModel", "wouldTake", "(I)I"⟩, 39) := ⟨⟨by decide +kernel, by decide +kernel⟩, List.mem_of_getElem? (i := 854) (by decide +kernel), List.mem_of_getElem? (i := 1098) (by decide +kernel), List.mem_of_getElem? (i := 1099) (by decide +kernel)⟩
theorem lw_p42 : lw_okq (⟨"FirstColourModel", "takenBeside", "(I)I"⟩, 39) := ⟨⟨by decide +kernel, by decide +kernel⟩, List.mem_of_getElem? (i := 854) (by decide +kernel), List.mem_of_getElem? (i := 1102) (by decide +kernel), List.mem_of_getElem? (i := 1103) (by decide +kernel)⟩
theorem lw_p43 : lw_okq (⟨"FirstColourModel", "areBeside", "(II)Z"⟩, 39) := ⟨⟨by decide +kernel, by decide +kernel⟩, List.mem_of_getElem? (i := 854) (by decide +kernel), List.mem_of_getElem? (i := 1106) (by decide +kernel), List.mem_of_getElem? (i := 1107) (by decide +kernel)⟩
theorem lw_p44 : lw_okq (⟨"FirstColourModel", "builds", "(II)V"⟩, 39) := ⟨⟨by decide +kernel, by decide +kernel⟩, List.mem_of_getElem? (i := 854) (by decide +kernel), List.mem_of_getElem? (i := 1116) (by decide +kernel), List.mem_of_getElem? (i := 1117) (by decide +kernel)⟩
theorem lw_p45 : lw_okq (⟨"FirstColourModel", "areTwo", "(II)Z"⟩, 39) := ⟨⟨by decide +kernel, by decide +kernel⟩, List.mem_of_getElem? (i := 854) (by decide +kernel), List.mem_of_getElem? (i := 1136) (by decide +kernel), List.mem_of_getElem? (i := 1137) (by decide +kernel)⟩
theorem lw_p46 : lw_okq (⟨"FirstColourModel", "lanes", "(II)I"⟩, 39) := ⟨⟨by decide +kernel, by decide +kernel⟩, List.mem_of_getElem? (i := 854) (by decide +kernel), List.mem_of_getElem? (i := 1140) (by decide +kernel), List.mem_of_getElem? (i := 1141) (by decide +kernel)⟩
theorem lw_p47 : lw_okq (⟨"FirstColourModel", "movesOf", "(II)I"⟩, 39) := ⟨⟨by decide +kernel, by decide +kernel⟩, List.mem_of_getElem? (i := 854) (by decide +kernel), List.mem_of_getElem? (i := 1144) (by decide +kernel), List.mem_of_getElem? (i := 1145) (by decide +kernel)⟩
def lw_privs_3 : List (MethodName × Nat) := [(⟨"FirstColourModel", "between", "(I)Z"⟩, 39), (⟨"FirstColourModel", "builtSet", "()I"⟩, 39), (⟨"FirstColourModel", "isBuilt", "(I)Z"⟩, 39), (⟨"FirstColourModel", "howMany", "()I"⟩, 39), (⟨"FirstColourModel", "pairs", "()I"⟩, 39), (⟨"FirstColourModel", "isLot", "(I)Z"⟩, 39), (⟨"FirstColourModel", "asksOf", "(IIII)I"⟩, 39), (⟨"FirstColourModel", "says", "(I)I"⟩, 39), (⟨"FirstColourModel", "all", "()I"⟩, 39), (⟨"FirstColourModel", "wouldTake", "(I)I"⟩, 39), (⟨"FirstColourModel", "takenBeside", "(I)I"⟩, 39), (⟨"FirstColourModel", "areBeside", "(II)Z"⟩, 39), (⟨"FirstColourModel", "builds", "(II)V"⟩, 39), (⟨"FirstColourModel", "areTwo", "(II)Z"⟩, 39), (⟨"FirstColourModel", "lanes", "(II)I"⟩, 39), (⟨"FirstColourModel", "movesOf", "(II)I"⟩, 39)]
theorem lw_r3 : ∀ q ∈ lw_privs_3, lw_okq q := List.forall_mem_cons.mpr ⟨lw_p32, List.forall_mem_cons.mpr ⟨lw_p33, List.forall_mem_cons.mpr ⟨lw_p34, List.forall_mem_cons.mpr ⟨lw_p35, List.forall_mem_cons.mpr ⟨lw_p36, List.forall_mem_cons.mpr ⟨lw_p37, List.forall_mem_cons.mpr ⟨lw_p38, List.forall_mem_cons.mpr ⟨lw_p39, List.forall_mem_cons.mpr ⟨lw_p40, List.forall_mem_cons.mpr ⟨lw_p41, List.forall_mem_cons.mpr ⟨lw_p42, List.forall_mem_cons.mpr ⟨lw_p43, List.forall_mem_cons.mpr ⟨lw_p44, List.forall_mem_cons.mpr ⟨lw_p45, List.forall_mem_cons.mpr ⟨lw_p46, List.forall_mem_cons.mpr ⟨lw_p47, fun _ h => absurd h List.not_mem_nil⟩⟩⟩⟩⟩⟩⟩⟩⟩⟩⟩⟩⟩⟩⟩⟩
theorem lw_p48 : lw_okq (⟨"FirstColourModel", "younger", "(II)I"⟩, 39) := ⟨⟨by decide +kernel, by decide +kernel⟩, List.mem_of_getElem? (i := 854) (by decide +kernel), List.mem_of_getElem? (i := 1148) (by decide +kernel), List.mem_of_getElem? (i := 1149) (by decide +kernel)⟩
theorem lw_p49 : lw_okq (⟨"FirstColourModel", "nextMoves", "(I)I"⟩, 39) := ⟨⟨by decide +kernel, by decide +kernel⟩, List.mem_of_getElem? (i := 854) (by decide +kernel), List.mem_of_getElem? (i := 1152) (by decide +kernel), List.mem_of_getElem? (i := 1153) (by decide +kernel)⟩
theorem lw_p50 : lw_okq (⟨"FirstColourModel", "lanesThought", "(II)I"⟩, 39) := ⟨⟨by decide +kernel, by decide +kernel⟩, List.mem_of_getElem? (i := 854) (by decide +kernel), List.mem_of_getElem? (i := 1164) (by decide +kernel), List.mem_of_getElem? (i := 1165) (by decide +kernel)⟩
theorem lw_p51 : lw_okq (⟨"FirstColourModel", "keeps", "()V"⟩, 39) := ⟨⟨by decide +kernel, by decide +kernel⟩, List.mem_of_getElem? (i := 854) (by decide +kernel), List.mem_of_getElem? (i := 1168) (by decide +kernel), List.mem_of_getElem? (i := 1169) (by decide +kernel)⟩
theorem lw_p52 : lw_okq (⟨"FirstColourModel", "laysBack", "()V"⟩, 39) := ⟨⟨by decide +kernel, by decide +kernel⟩, List.mem_of_getElem? (i := 854) (by decide +kernel), List.mem_of_getElem? (i := 1172) (by decide +kernel), List.mem_of_getElem? (i := 1173) (by decide +kernel)⟩
theorem lw_p53 : lw_okq (⟨"FirstColourModel", "notBuilt", "()I"⟩, 39) := ⟨⟨by decide +kernel, by decide +kernel⟩, List.mem_of_getElem? (i := 854) (by decide +kernel), List.mem_of_getElem? (i := 1180) (by decide +kernel), List.mem_of_getElem? (i := 1181) (by decide +kernel)⟩
theorem lw_p54 : lw_okq (⟨"FirstColourModel", "begins", "(I)V"⟩, 39) := ⟨⟨by decide +kernel, by decide +kernel⟩, List.mem_of_getElem? (i := 854) (by decide +kernel), List.mem_of_getElem? (i := 1184) (by decide +kernel), List.mem_of_getElem? (i := 1185) (by decide +kernel)⟩
theorem lw_p55 : lw_okq (⟨"FirstColourModel", "manyByRow", "()I"⟩, 39) := ⟨⟨by decide +kernel, by decide +kernel⟩, List.mem_of_getElem? (i := 854) (by decide +kernel), List.mem_of_getElem? (i := 1188) (by decide +kernel), List.mem_of_getElem? (i := 1189) (by decide +kernel)⟩
theorem lw_p56 : lw_okq (⟨"FirstColourModel", "buildsRow", "(I)V"⟩, 39) := ⟨⟨by decide +kernel, by decide +kernel⟩, List.mem_of_getElem? (i := 854) (by decide +kernel), List.mem_of_getElem? (i := 1192) (by decide +kernel), List.mem_of_getElem? (i := 1193) (by decide +kernel)⟩
theorem lw_p57 : lw_okq (⟨"FirstColourModel", "rowDigits", "()I"⟩, 39) := ⟨⟨by decide +kernel, by decide +kernel⟩, List.mem_of_getElem? (i := 854) (by decide +kernel), List.mem_of_getElem? (i := 1196) (by decide +kernel), List.mem_of_getElem? (i := 1197) (by decide +kernel)⟩
theorem lw_p58 : lw_okq (⟨"FirstColourModel", "nextRow", "()Z"⟩, 39) := ⟨⟨by decide +kernel, by decide +kernel⟩, List.mem_of_getElem? (i := 854) (by decide +kernel), List.mem_of_getElem? (i := 1200) (by decide +kernel), List.mem_of_getElem? (i := 1201) (by decide +kernel)⟩
theorem lw_p59 : lw_okq (⟨"FirstColourModel", "swapsRow", "(II)V"⟩, 39) := ⟨⟨by decide +kernel, by decide +kernel⟩, List.mem_of_getElem? (i := 854) (by decide +kernel), List.mem_of_getElem? (i := 1204) (by decide +kernel), List.mem_of_getElem? (i := 1205) (by decide +kernel)⟩
theorem lw_p60 : lw_okq (⟨"FirstColourModel", "canPaint", "(II)Z"⟩, 39) := ⟨⟨by decide +kernel, by decide +kernel⟩, List.mem_of_getElem? (i := 854) (by decide +kernel), List.mem_of_getElem? (i := 1212) (by decide +kernel), List.mem_of_getElem? (i := 1213) (by decide +kernel)⟩
theorem lw_p61 : lw_okq (⟨"FirstColourModel", "readsRow", "(II)I"⟩, 39) := ⟨⟨by decide +kernel, by decide +kernel⟩, List.mem_of_getElem? (i := 854) (by decide +kernel), List.mem_of_getElem? (i := 1220) (by decide +kernel), List.mem_of_getElem? (i := 1221) (by decide +kernel)⟩
theorem lw_p62 : lw_okq (⟨"FirstColourModel", "worthBehind", "(II)I"⟩, 39) := ⟨⟨by decide +kernel, by decide +kernel⟩, List.mem_of_getElem? (i := 854) (by decide +kernel), List.mem_of_getElem? (i := 1232) (by decide +kernel), List.mem_of_getElem? (i := 1233) (by decide +kernel)⟩
theorem lw_p63 : lw_okq (⟨"FirstColourModel", "sortsRow", "(I)V"⟩, 39) := ⟨⟨by decide +kernel, by decide +kernel⟩, List.mem_of_getElem? (i := 854) (by decide +kernel), List.mem_of_getElem? (i := 1240) (by decide +kernel), List.mem_of_getElem? (i := 1241) (by decide +kernel)⟩
def lw_privs_4 : List (MethodName × Nat) := [(⟨"FirstColourModel", "younger", "(II)I"⟩, 39), (⟨"FirstColourModel", "nextMoves", "(I)I"⟩, 39), (⟨"FirstColourModel", "lanesThought", "(II)I"⟩, 39), (⟨"FirstColourModel", "keeps", "()V"⟩, 39), (⟨"FirstColourModel", "laysBack", "()V"⟩, 39), (⟨"FirstColourModel", "notBuilt", "()I"⟩, 39), (⟨"FirstColourModel", "begins", "(I)V"⟩, 39), (⟨"FirstColourModel", "manyByRow", "()I"⟩, 39), (⟨"FirstColourModel", "buildsRow", "(I)V"⟩, 39), (⟨"FirstColourModel", "rowDigits", "()I"⟩, 39), (⟨"FirstColourModel", "nextRow", "()Z"⟩, 39), (⟨"FirstColourModel", "swapsRow", "(II)V"⟩, 39), (⟨"FirstColourModel", "canPaint", "(II)Z"⟩, 39), (⟨"FirstColourModel", "readsRow", "(II)I"⟩, 39), (⟨"FirstColourModel", "worthBehind", "(II)I"⟩, 39), (⟨"FirstColourModel", "sortsRow", "(I)V"⟩, 39)]
theorem lw_r4 : ∀ q ∈ lw_privs_4, lw_okq q := List.forall_mem_cons.mpr ⟨lw_p48, List.forall_mem_cons.mpr ⟨lw_p49, List.forall_mem_cons.mpr ⟨lw_p50, List.forall_mem_cons.mpr ⟨lw_p51, List.forall_mem_cons.mpr ⟨lw_p52, List.forall_mem_cons.mpr ⟨lw_p53, List.forall_mem_cons.mpr ⟨lw_p54, List.forall_mem_cons.mpr ⟨lw_p55, List.forall_mem_cons.mpr ⟨lw_p56, List.forall_mem_cons.mpr ⟨lw_p57, List.forall_mem_cons.mpr ⟨lw_p58, List.forall_mem_cons.mpr ⟨lw_p59, List.forall_mem_cons.mpr ⟨lw_p60, List.forall_mem_cons.mpr ⟨lw_p61, List.forall_mem_cons.mpr ⟨lw_p62, List.forall_mem_cons.mpr ⟨lw_p63, fun _ h => absurd h List.not_mem_nil⟩⟩⟩⟩⟩⟩⟩⟩⟩⟩⟩⟩⟩⟩⟩⟩
theorem lw_p64 : lw_okq (⟨"FirstColourModel", "worthInRow", "(I)I"⟩, 39) := ⟨⟨by decide +kernel, by decide +kernel⟩, List.mem_of_getElem? (i := 854) (by decide +kernel), List.mem_of_getElem? (i := 1249) (by decide +kernel), List.mem_of_getElem? (i := 1250) (by decide +kernel)⟩
theorem lw_p65 : lw_okq (⟨"FirstColourModel", "placeOf", "(I)I"⟩, 39) := ⟨⟨by decide +kernel, by decide +kernel⟩, List.mem_of_getElem? (i := 854) (by decide +kernel), List.mem_of_getElem? (i := 1253) (by decide +kernel), List.mem_of_getElem? (i := 1254) (by decide +kernel)⟩
theorem lw_p66 : lw_okq (⟨"FirstColourModel", "fittingRows", "(I)I"⟩, 39) := ⟨⟨by decide +kernel, by decide +kernel⟩, List.mem_of_getElem? (i := 854) (by decide +kernel), List.mem_of_getElem? (i := 1261) (by decide +kernel), List.mem_of_getElem? (i := 1262) (by decide +kernel)⟩
theorem lw_p67 : lw_okq (⟨"FirstColourModel", "fitsRow", "(I)Z"⟩, 39) := ⟨⟨by decide +kernel, by decide +kernel⟩, List.mem_of_getElem? (i := 854) (by decide +kernel), List.mem_of_getElem? (i := 1265) (by decide +kernel), List.mem_of_getElem? (i := 1266) (by decide +kernel)⟩
theorem lw_p68 : lw_okq (⟨"FirstColourModel", "sheetWrong", "(I)I"⟩, 39) := ⟨⟨by decide +kernel, by decide +kernel⟩, List.mem_of_getElem? (i := 854) (by decide +kernel), List.mem_of_getElem? (i := 1277) (by decide +kernel), List.mem_of_getElem? (i := 1278) (by decide +kernel)⟩
theorem lw_p69 : lw_okq (⟨"FirstColourModel", "unlike", "(I)I"⟩, 39) := ⟨⟨by decide +kernel, by decide +kernel⟩, List.mem_of_getElem? (i := 854) (by decide +kernel), List.mem_of_getElem? (i := 1281) (by decide +kernel), List.mem_of_getElem? (i := 1282) (by decide +kernel)⟩
theorem lw_p70 : lw_okq (⟨"FirstColourModel", "isSoByRow", "(I)Z"⟩, 39) := ⟨⟨by decide +kernel, by decide +kernel⟩, List.mem_of_getElem? (i := 854) (by decide +kernel), List.mem_of_getElem? (i := 1289) (by decide +kernel), List.mem_of_getElem? (i := 1290) (by decide +kernel)⟩
theorem lw_p71 : lw_okq (⟨"FirstColourModel", "manyBy", "(I)I"⟩, 39) := ⟨⟨by decide +kernel, by decide +kernel⟩, List.mem_of_getElem? (i := 854) (by decide +kernel), List.mem_of_getElem? (i := 1306) (by decide +kernel), List.mem_of_getElem? (i := 1307) (by decide +kernel)⟩
def lw_privs_5 : List (MethodName × Nat) := [(⟨"FirstColourModel", "worthInRow", "(I)I"⟩, 39), (⟨"FirstColourModel", "placeOf", "(I)I"⟩, 39), (⟨"FirstColourModel", "fittingRows", "(I)I"⟩, 39), (⟨"FirstColourModel", "fitsRow", "(I)Z"⟩, 39), (⟨"FirstColourModel", "sheetWrong", "(I)I"⟩, 39), (⟨"FirstColourModel", "unlike", "(I)I"⟩, 39), (⟨"FirstColourModel", "isSoByRow", "(I)Z"⟩, 39), (⟨"FirstColourModel", "manyBy", "(I)I"⟩, 39)]
theorem lw_r5 : ∀ q ∈ lw_privs_5, lw_okq q := List.forall_mem_cons.mpr ⟨lw_p64, List.forall_mem_cons.mpr ⟨lw_p65, List.forall_mem_cons.mpr ⟨lw_p66, List.forall_mem_cons.mpr ⟨lw_p67, List.forall_mem_cons.mpr ⟨lw_p68, List.forall_mem_cons.mpr ⟨lw_p69, List.forall_mem_cons.mpr ⟨lw_p70, List.forall_mem_cons.mpr ⟨lw_p71, fun _ h => absurd h List.not_mem_nil⟩⟩⟩⟩⟩⟩⟩⟩
def lw_privs : List (MethodName × Nat) := lw_privs_1 ++ (lw_privs_2 ++ (lw_privs_3 ++ (lw_privs_4 ++ (lw_privs_5))))
def lw_tbl : List Cond := k2_sels lw_privs ++ tables_1
theorem lw_privs_ok : ∀ q ∈ lw_privs, lw_okq q := by
  show ∀ q ∈ lw_privs_1 ++ (lw_privs_2 ++ (lw_privs_3 ++ (lw_privs_4 ++ (lw_privs_5)))), lw_okq q
  exact List.forall_mem_append.mpr ⟨lw_r1, List.forall_mem_append.mpr ⟨lw_r2, List.forall_mem_append.mpr ⟨lw_r3, List.forall_mem_append.mpr ⟨lw_r4, lw_r5⟩⟩⟩⟩

def RX0 : String := "FirstColour$Fits"
def TX0 : u_T := fun k => match k with
  | 0 => ("FirstColour$Fits", "ways", "[I", true)
  | 1 => ("FirstColour$Fits", "nexts", "[I", true)
  | _ => ("FirstColour$Fits", "lotBits", "I", false)
def tyX0 : Nat → FieldType := fun k => match k with
  | 0 => .array .int
  | 1 => .array .int
  | _ => .int
abbrev wsX00 : List Cond := u_ws RX0 TX0 3
theorem nmX0 : ∀ a, a < 3 → ∀ b, b < 3 → a ≠ b → (TX0 a).2.1 ≠ (TX0 b).2.1 := by decide +kernel
theorem tyX0_ok : ∀ k, k < 3 → parseFieldDescriptor (TX0 k).2.2.1 = some (tyX0 k) := by decide +kernel
abbrev cX0_init : ByteArray := prog_2_method_1_code
def yX0_init : MethodName := ⟨RX0, "<init>", "()V"⟩
abbrev cX0_countOrders : ByteArray := prog_2_method_2_code
def yX0_countOrders : MethodName := ⟨RX0, "countOrders", "(LFirstColour$Town;II[II)I"⟩
abbrev cX0_firstOrder : ByteArray := prog_2_method_3_code
def yX0_firstOrder : MethodName := ⟨RX0, "firstOrder", "()I"⟩
abbrev cX0_fewestColours : ByteArray := prog_2_method_4_code
def yX0_fewestColours : MethodName := ⟨RX0, "fewestColours", "(LFirstColour$Town;)I"⟩
abbrev cX0_noneBeside : ByteArray := prog_2_method_5_code
def yX0_noneBeside : MethodName := ⟨RX0, "noneBeside", "(LFirstColour$Town;I)Z"⟩
def RX1 : String := "FirstColour$Lanes"
def TX1 : u_T := fun k => match k with
  | _ => ("", "", "", false)
def tyX1 : Nat → FieldType := fun k => match k with
  | _ => .int
abbrev wsX10 : List Cond := u_ws RX1 TX1 0
theorem nmX1 : ∀ a, a < 0 → ∀ b, b < 0 → a ≠ b → (TX1 a).2.1 ≠ (TX1 b).2.1 := by decide +kernel
theorem tyX1_ok : ∀ k, k < 0 → parseFieldDescriptor (TX1 k).2.2.1 = some (tyX1 k) := by decide +kernel
abbrev cX1_openLane : ByteArray := prog_3_method_2_code
def yX1_openLane : MethodName := ⟨RX1, "openLane", "(LFirstColour$Town;LFirstColour$Texts;II)I"⟩
abbrev cX1_moverBeside : ByteArray := prog_3_method_3_code
def yX1_moverBeside : MethodName := ⟨RX1, "moverBeside", "(LFirstColour$Town;LFirstColour$Texts;I)I"⟩
abbrev cX1_moverOf : ByteArray := prog_3_method_4_code
def yX1_moverOf : MethodName := ⟨RX1, "moverOf", "(LFirstColour$Town;LFirstColour$Texts;II)I"⟩
def RX2 : String := "FirstColour$Order"
def TX2 : u_T := fun k => match k with
  | 0 => ("FirstColour$Order", "lots", "[I", true)
  | _ => ("FirstColour$Order", "size", "I", false)
def tyX2 : Nat → FieldType := fun k => match k with
  | 0 => .array .int
  | _ => .int
abbrev wsX20 : List Cond := u_ws RX2 TX2 2
theorem nmX2 : ∀ a, a < 2 → ∀ b, b < 2 → a ≠ b → (TX2 a).2.1 ≠ (TX2 b).2.1 := by decide +kernel
theorem tyX2_ok : ∀ k, k < 2 → parseFieldDescriptor (TX2 k).2.2.1 = some (tyX2 k) := by decide +kernel
abbrev cX2_init : ByteArray := prog_4_method_1_code
def yX2_init : MethodName := ⟨RX2, "<init>", "()V"⟩
abbrev cX2_becomesSheet : ByteArray := prog_4_method_2_code
def yX2_becomesSheet : MethodName := ⟨RX2, "becomesSheet", "(LFirstColour$Sheets;II)Z"⟩
abbrev cX2_append : ByteArray := prog_4_method_3_code
def yX2_append : MethodName := ⟨RX2, "append", "(I)V"⟩
abbrev cX2_becomesRule : ByteArray := prog_4_method_4_code
def yX2_becomesRule : MethodName := ⟨RX2, "becomesRule", "(LFirstColour$Town;I)V"⟩
abbrev cX2_leastRanked : ByteArray := prog_4_method_5_code
def yX2_leastRanked : MethodName := ⟨RX2, "leastRanked", "(LFirstColour$Town;II)I"⟩
abbrev cX2_placeOf : ByteArray := prog_4_method_6_code
def yX2_placeOf : MethodName := ⟨RX2, "placeOf", "(I)I"⟩
abbrev cX2_swap : ByteArray := prog_4_method_7_code
def yX2_swap : MethodName := ⟨RX2, "swap", "(II)V"⟩
abbrev cX2_digits : ByteArray := prog_4_method_8_code
def yX2_digits : MethodName := ⟨RX2, "digits", "()I"⟩
def RX3 : String := "FirstColour$Reader"
def TX3 : u_T := fun k => match k with
  | 0 => ("FirstColour$Reader", "code", "[I", true)
  | 1 => ("FirstColour$Reader", "starts", "[I", true)
  | 2 => ("FirstColour$Reader", "tape", "[I", true)
  | 3 => ("FirstColour$Reader", "tapeSize", "I", false)
  | 4 => ("FirstColour$Reader", "codeSize", "I", false)
  | 5 => ("FirstColour$Reader", "at", "I", false)
  | 6 => ("FirstColour$Reader", "place", "I", false)
  | 7 => ("FirstColour$Reader", "token", "I", false)
  | 8 => ("FirstColour$Reader", "value", "I", false)
  | _ => ("FirstColour$Reader", "fault", "I", false)
def tyX3 : Nat → FieldType := fun k => match k with
  | 0 => .array .int
  | 1 => .array .int
  | 2 => .array .int
  | 3 => .int
  | 4 => .int
  | 5 => .int
  | 6 => .int
  | 7 => .int
  | 8 => .int
  | _ => .int
abbrev wsX30 : List Cond := u_ws RX3 TX3 10
theorem nmX3 : ∀ a, a < 10 → ∀ b, b < 10 → a ≠ b → (TX3 a).2.1 ≠ (TX3 b).2.1 := by decide +kernel
theorem tyX3_ok : ∀ k, k < 10 → parseFieldDescriptor (TX3 k).2.2.1 = some (tyX3 k) := by decide +kernel
abbrev cX3_init : ByteArray := prog_5_method_1_code
def yX3_init : MethodName := ⟨RX3, "<init>", "()V"⟩
abbrev cX3_read : ByteArray := prog_5_method_2_code
def yX3_read : MethodName := ⟨RX3, "read", "([II)I"⟩
abbrev cX3_fail : ByteArray := prog_5_method_3_code
def yX3_fail : MethodName := ⟨RX3, "fail", "()V"⟩
abbrev cX3_expect : ByteArray := prog_5_method_4_code
def yX3_expect : MethodName := ⟨RX3, "expect", "(I)V"⟩
abbrev cX3_readOr : ByteArray := prog_5_method_5_code
def yX3_readOr : MethodName := ⟨RX3, "readOr", "(I)V"⟩
abbrev cX3_readAnd : ByteArray := prog_5_method_6_code
def yX3_readAnd : MethodName := ⟨RX3, "readAnd", "(I)V"⟩
abbrev cX3_readNot : ByteArray := prog_5_method_7_code
def yX3_readNot : MethodName := ⟨RX3, "readNot", "(I)V"⟩
abbrev cX3_readSum : ByteArray := prog_5_method_8_code
def yX3_readSum : MethodName := ⟨RX3, "readSum", "(I)V"⟩
abbrev cX3_readTerm : ByteArray := prog_5_method_9_code
def yX3_readTerm : MethodName := ⟨RX3, "readTerm", "(I)V"⟩
abbrev cX3_readOne : ByteArray := prog_5_method_10_code
def yX3_readOne : MethodName := ⟨RX3, "readOne", "(I)V"⟩
abbrev cX3_mayOpen : ByteArray := prog_5_method_11_code
def yX3_mayOpen : MethodName := ⟨RX3, "mayOpen", "(I)Z"⟩
abbrev cX3_addStep : ByteArray := prog_5_method_12_code
def yX3_addStep : MethodName := ⟨RX3, "addStep", "(I)V"⟩
abbrev cX3_next : ByteArray := prog_5_method_13_code
def yX3_next : MethodName := ⟨RX3, "next", "()V"⟩
abbrev cX3_readWord : ByteArray := prog_5_method_14_code
def yX3_readWord : MethodName := ⟨RX3, "readWord", "()V"⟩
abbrev cX3_readNumber : ByteArray := prog_5_method_15_code
def yX3_readNumber : MethodName := ⟨RX3, "readNumber", "()V"⟩
abbrev cX3_standsAtPlace : ByteArray := prog_5_method_16_code
def yX3_standsAtPlace : MethodName := ⟨RX3, "standsAtPlace", "(Ljava/lang/String;)Z"⟩
abbrev cX3_word : ByteArray := prog_5_method_17_code
def yX3_word : MethodName := ⟨RX3, "word", "(I)Ljava/lang/String;"⟩
abbrev cX3_isLetter : ByteArray := prog_5_method_18_code
def yX3_isLetter : MethodName := ⟨RX3, "isLetter", "(I)Z"⟩
abbrev cX3_isDigit : ByteArray := prog_5_method_19_code
def yX3_isDigit : MethodName := ⟨RX3, "isDigit", "(I)Z"⟩
abbrev cX3_isSign : ByteArray := prog_5_method_20_code
def yX3_isSign : MethodName := ⟨RX3, "isSign", "(I)Z"⟩
abbrev cX3_isUnary : ByteArray := prog_5_method_21_code
def yX3_isUnary : MethodName := ⟨RX3, "isUnary", "(I)Z"⟩
def RX4 : String := "FirstColour$Search"
def TX4 : u_T := fun k => match k with
  | 0 => ("FirstColour$Search", "forMost", "Z", false)
  | 1 => ("FirstColour$Search", "best", "I", false)
  | _ => ("FirstColour$Search", "bestDigits", "I", false)
def tyX4 : Nat → FieldType := fun k => match k with
  | 0 => .boolean
  | 1 => .int
  | _ => .int
abbrev wsX40 : List Cond := u_ws RX4 TX4 3
theorem nmX4 : ∀ a, a < 3 → ∀ b, b < 3 → a ≠ b → (TX4 a).2.1 ≠ (TX4 b).2.1 := by decide +kernel
theorem tyX4_ok : ∀ k, k < 3 → parseFieldDescriptor (TX4 k).2.2.1 = some (tyX4 k) := by decide +kernel
abbrev cX4_init : ByteArray := prog_6_method_1_code
def yX4_init : MethodName := ⟨RX4, "<init>", "()V"⟩
abbrev cX4_run : ByteArray := prog_6_method_2_code
def yX4_run : MethodName := ⟨RX4, "run", "(LFirstColour$Town;Z)V"⟩
abbrev cX4_tryAll : ByteArray := prog_6_method_3_code
def yX4_tryAll : MethodName := ⟨RX4, "tryAll", "(LFirstColour$Search;LFirstColour$Town;IIII)V"⟩
abbrev cX4_canBeBetter : ByteArray := prog_6_method_4_code
def yX4_canBeBetter : MethodName := ⟨RX4, "canBeBetter", "(II)Z"⟩
def RX5 : String := "FirstColour$Sheets"
def TX5 : u_T := fun k => match k with
  | 0 => ("FirstColour$Sheets", "rows", "[[I", true)
  | 1 => ("FirstColour$Sheets", "sizes", "[I", true)
  | _ => ("FirstColour$Sheets", "sorts", "[I", true)
def tyX5 : Nat → FieldType := fun k => match k with
  | 0 => .array (.array .int)
  | 1 => .array .int
  | _ => .array .int
abbrev wsX50 : List Cond := u_ws RX5 TX5 3
theorem nmX5 : ∀ a, a < 3 → ∀ b, b < 3 → a ≠ b → (TX5 a).2.1 ≠ (TX5 b).2.1 := by decide +kernel
theorem tyX5_ok : ∀ k, k < 3 → parseFieldDescriptor (TX5 k).2.2.1 = some (tyX5 k) := by decide +kernel
abbrev cX5_init : ByteArray := prog_7_method_1_code
def yX5_init : MethodName := ⟨RX5, "<init>", "()V"⟩
abbrev cX5_isSheet : ByteArray := prog_7_method_2_code
def yX5_isSheet : MethodName := ⟨RX5, "isSheet", "(I)Z"⟩
abbrev cX5_isMissing : ByteArray := prog_7_method_3_code
def yX5_isMissing : MethodName := ⟨RX5, "isMissing", "(I)Z"⟩
abbrev cX5_hasCell : ByteArray := prog_7_method_4_code
def yX5_hasCell : MethodName := ⟨RX5, "hasCell", "(II)Z"⟩
abbrev cX5_hasRange : ByteArray := prog_7_method_5_code
def yX5_hasRange : MethodName := ⟨RX5, "hasRange", "(III)Z"⟩
abbrev cX5_cellAt : ByteArray := prog_7_method_6_code
def yX5_cellAt : MethodName := ⟨RX5, "cellAt", "(II)I"⟩
abbrev cX5_makeRow : ByteArray := prog_7_method_7_code
def yX5_makeRow : MethodName := ⟨RX5, "makeRow", "(III)V"⟩
abbrev cX5_putCell : ByteArray := prog_7_method_8_code
def yX5_putCell : MethodName := ⟨RX5, "putCell", "(III)V"⟩
def RX6 : String := "FirstColour$Texts"
def TX6 : u_T := fun k => match k with
  | 0 => ("FirstColour$Texts", "size", "I", false)
  | 1 => ("FirstColour$Texts", "tapeSize", "I", false)
  | 2 => ("FirstColour$Texts", "tape", "[I", true)
  | 3 => ("FirstColour$Texts", "reader", "LFirstColour$Reader;", true)
  | 4 => ("FirstColour$Texts", "codes", "[[I", true)
  | 5 => ("FirstColour$Texts", "starts", "[[I", true)
  | 6 => ("FirstColour$Texts", "names", "[I", true)
  | _ => ("FirstColour$Texts", "stack", "[I", true)
def tyX6 : Nat → FieldType := fun k => match k with
  | 0 => .int
  | 1 => .int
  | 2 => .array .int
  | 3 => .object "FirstColour$Reader"
  | 4 => .array (.array .int)
  | 5 => .array (.array .int)
  | 6 => .array .int
  | _ => .array .int
abbrev wsX60 : List Cond := u_ws RX6 TX6 8
theorem nmX6 : ∀ a, a < 8 → ∀ b, b < 8 → a ≠ b → (TX6 a).2.1 ≠ (TX6 b).2.1 := by decide +kernel
theorem tyX6_ok : ∀ k, k < 8 → parseFieldDescriptor (TX6 k).2.2.1 = some (tyX6 k) := by decide +kernel
abbrev cX6_init : ByteArray := prog_8_method_1_code
def yX6_init : MethodName := ⟨RX6, "<init>", "()V"⟩
abbrev cX6_addByte : ByteArray := prog_8_method_2_code
def yX6_addByte : MethodName := ⟨RX6, "addByte", "(I)V"⟩
abbrev cX6_readTape : ByteArray := prog_8_method_3_code
def yX6_readTape : MethodName := ⟨RX6, "readTape", "()I"⟩
abbrev cX6_says : ByteArray := prog_8_method_4_code
def yX6_says : MethodName := ⟨RX6, "says", "(ILFirstColour$Town;III)I"⟩
abbrev cX6_valueOf : ByteArray := prog_8_method_5_code
def yX6_valueOf : MethodName := ⟨RX6, "valueOf", "([III)I"⟩
abbrev cX6_unary : ByteArray := prog_8_method_6_code
def yX6_unary : MethodName := ⟨RX6, "unary", "(II)I"⟩
abbrev cX6_binary : ByteArray := prog_8_method_7_code
def yX6_binary : MethodName := ⟨RX6, "binary", "(III)I"⟩
def RX7 : String := "FirstColour$Town"
def TX7 : u_T := fun k => match k with
  | 0 => ("FirstColour$Town", "lots", "I", false)
  | 1 => ("FirstColour$Town", "law", "I", false)
  | 2 => ("FirstColour$Town", "builds", "I", false)
  | 3 => ("FirstColour$Town", "builtBits", "I", false)
  | 4 => ("FirstColour$Town", "kinds", "[I", true)
  | 5 => ("FirstColour$Town", "mores", "[I", true)
  | 6 => ("FirstColour$Town", "besides", "[I", true)
  | 7 => ("FirstColour$Town", "colours", "[I", true)
  | _ => ("FirstColour$Town", "stamps", "[I", true)
def tyX7 : Nat → FieldType := fun k => match k with
  | 0 => .int
  | 1 => .int
  | 2 => .int
  | 3 => .int
  | 4 => .array .int
  | 5 => .array .int
  | 6 => .array .int
  | 7 => .array .int
  | _ => .array .int
abbrev wsX70 : List Cond := u_ws RX7 TX7 9
theorem nmX7 : ∀ a, a < 9 → ∀ b, b < 9 → a ≠ b → (TX7 a).2.1 ≠ (TX7 b).2.1 := by decide +kernel
theorem tyX7_ok : ∀ k, k < 9 → parseFieldDescriptor (TX7 k).2.2.1 = some (tyX7 k) := by decide +kernel
abbrev cX7_init : ByteArray := prog_9_method_1_code
def yX7_init : MethodName := ⟨RX7, "<init>", "()V"⟩
abbrev cX7_becomes : ByteArray := prog_9_method_2_code
def yX7_becomes : MethodName := ⟨RX7, "becomes", "(LFirstColour$Town;)V"⟩
abbrev cX7_hasLot : ByteArray := prog_9_method_3_code
def yX7_hasLot : MethodName := ⟨RX7, "hasLot", "(I)Z"⟩
abbrev cX7_hasTwoLots : ByteArray := prog_9_method_4_code
def yX7_hasTwoLots : MethodName := ⟨RX7, "hasTwoLots", "(II)Z"⟩
abbrev cX7_isBuilt : ByteArray := prog_9_method_5_code
def yX7_isBuilt : MethodName := ⟨RX7, "isBuilt", "(I)Z"⟩
abbrev cX7_areBeside : ByteArray := prog_9_method_6_code
def yX7_areBeside : MethodName := ⟨RX7, "areBeside", "(II)Z"⟩
abbrev cX7_colourOf : ByteArray := prog_9_method_7_code
def yX7_colourOf : MethodName := ⟨RX7, "colourOf", "(I)I"⟩
abbrev cX7_unbuiltBits : ByteArray := prog_9_method_8_code
def yX7_unbuiltBits : MethodName := ⟨RX7, "unbuiltBits", "()I"⟩
abbrev cX7_unbuiltLot : ByteArray := prog_9_method_9_code
def yX7_unbuiltLot : MethodName := ⟨RX7, "unbuiltLot", "(I)I"⟩
abbrev cX7_colourBits : ByteArray := prog_9_method_10_code
def yX7_colourBits : MethodName := ⟨RX7, "colourBits", "()I"⟩
abbrev cX7_howManyColours : ByteArray := prog_9_method_11_code
def yX7_howManyColours : MethodName := ⟨RX7, "howManyColours", "()I"⟩
abbrev cX7_pairsBeside : ByteArray := prog_9_method_12_code
def yX7_pairsBeside : MethodName := ⟨RX7, "pairsBeside", "()I"⟩
abbrev cX7_fitsLot : ByteArray := prog_9_method_13_code
def yX7_fitsLot : MethodName := ⟨RX7, "fitsLot", "(III)Z"⟩
abbrev cX7_addLot : ByteArray := prog_9_method_14_code
def yX7_addLot : MethodName := ⟨RX7, "addLot", "(III)I"⟩
abbrev cX7_join : ByteArray := prog_9_method_15_code
def yX7_join : MethodName := ⟨RX7, "join", "(II)V"⟩
abbrev cX7_part : ByteArray := prog_9_method_16_code
def yX7_part : MethodName := ⟨RX7, "part", "(II)V"⟩
abbrev cX7_wouldTake : ByteArray := prog_9_method_17_code
def yX7_wouldTake : MethodName := ⟨RX7, "wouldTake", "(I)I"⟩
abbrev cX7_colourAmong : ByteArray := prog_9_method_18_code
def yX7_colourAmong : MethodName := ⟨RX7, "colourAmong", "(II[I)I"⟩
abbrev cX7_colourByKind : ByteArray := prog_9_method_19_code
def yX7_colourByKind : MethodName := ⟨RX7, "colourByKind", "(III)I"⟩
abbrev cX7_least : ByteArray := prog_9_method_20_code
def yX7_least : MethodName := ⟨RX7, "least", "(I)I"⟩
abbrev cX7_aboveGreatest : ByteArray := prog_9_method_21_code
def yX7_aboveGreatest : MethodName := ⟨RX7, "aboveGreatest", "(I)I"⟩
abbrev cX7_isOfKind : ByteArray := prog_9_method_22_code
def yX7_isOfKind : MethodName := ⟨RX7, "isOfKind", "(II)Z"⟩
abbrev cX7_buildHouse : ByteArray := prog_9_method_23_code
def yX7_buildHouse : MethodName := ⟨RX7, "buildHouse", "(I)I"⟩
abbrev cX7_putHouse : ByteArray := prog_9_method_24_code
def yX7_putHouse : MethodName := ⟨RX7, "putHouse", "(II)V"⟩
abbrev cX7_clearLot : ByteArray := prog_9_method_25_code
def yX7_clearLot : MethodName := ⟨RX7, "clearLot", "(I)V"⟩
abbrev cX7_buildFirst : ByteArray := prog_9_method_26_code
def yX7_buildFirst : MethodName := ⟨RX7, "buildFirst", "(LFirstColour$Order;I)V"⟩
def RX8 : String := "FirstColour"
def TX8 : u_T := fun k => match k with
  | 0 => ("FirstColour", "town", "LFirstColour$Town;", true)
  | 1 => ("FirstColour", "thought", "LFirstColour$Town;", true)
  | 2 => ("FirstColour", "kept", "LFirstColour$Town;", true)
  | 3 => ("FirstColour", "imageKept", "Z", false)
  | 4 => ("FirstColour", "texts", "LFirstColour$Texts;", true)
  | 5 => ("FirstColour", "sheets", "LFirstColour$Sheets;", true)
  | 6 => ("FirstColour", "order", "LFirstColour$Order;", true)
  | 7 => ("FirstColour", "search", "LFirstColour$Search;", true)
  | _ => ("FirstColour", "fits", "LFirstColour$Fits;", true)
def tyX8 : Nat → FieldType := fun k => match k with
  | 0 => .object "FirstColour$Town"
  | 1 => .object "FirstColour$Town"
  | 2 => .object "FirstColour$Town"
  | 3 => .boolean
  | 4 => .object "FirstColour$Texts"
  | 5 => .object "FirstColour$Sheets"
  | 6 => .object "FirstColour$Order"
  | 7 => .object "FirstColour$Search"
  | _ => .object "FirstColour$Fits"
abbrev wsX80 : List Cond := u_ws RX8 TX8 9
theorem nmX8 : ∀ a, a < 9 → ∀ b, b < 9 → a ≠ b → (TX8 a).2.1 ≠ (TX8 b).2.1 := by decide +kernel
theorem tyX8_ok : ∀ k, k < 9 → parseFieldDescriptor (TX8 k).2.2.1 = some (tyX8 k) := by decide +kernel
abbrev cX8_init : ByteArray := prog_1_method_1_code
def yX8_init : MethodName := ⟨RX8, "<init>", "()V"⟩
abbrev cX8_count : ByteArray := prog_1_method_2_code
def yX8_count : MethodName := ⟨RX8, "count", "(I)I"⟩
abbrev cX8_feed : ByteArray := prog_1_method_3_code
def yX8_feed : MethodName := ⟨RX8, "feed", "(IIIIII)I"⟩
abbrev cX8_isByte : ByteArray := prog_1_method_4_code
def yX8_isByte : MethodName := ⟨RX8, "isByte", "(I)Z"⟩
abbrev cX8_text : ByteArray := prog_1_method_5_code
def yX8_text : MethodName := ⟨RX8, "text", "()I"⟩
abbrev cX8_force : ByteArray := prog_1_method_6_code
def yX8_force : MethodName := ⟨RX8, "force", "(I)I"⟩
abbrev cX8_asks : ByteArray := prog_1_method_7_code
def yX8_asks : MethodName := ⟨RX8, "asks", "(IIII)I"⟩
abbrev cX8_isColour : ByteArray := prog_1_method_8_code
def yX8_isColour : MethodName := ⟨RX8, "isColour", "(I)Z"⟩
abbrev cX8_lot : ByteArray := prog_1_method_9_code
def yX8_lot : MethodName := ⟨RX8, "lot", "(III)I"⟩
abbrev cX8_told : ByteArray := prog_1_method_10_code
def yX8_told : MethodName := ⟨RX8, "told", "(II)I"⟩
abbrev cX8_build : ByteArray := prog_1_method_11_code
def yX8_build : MethodName := ⟨RX8, "build", "(I)I"⟩
abbrev cX8_would : ByteArray := prog_1_method_12_code
def yX8_would : MethodName := ⟨RX8, "would", "(I)I"⟩
abbrev cX8_pull : ByteArray := prog_1_method_13_code
def yX8_pull : MethodName := ⟨RX8, "pull", "(I)I"⟩
abbrev cX8_paint : ByteArray := prog_1_method_14_code
def yX8_paint : MethodName := ⟨RX8, "paint", "(II)I"⟩
abbrev cX8_lane : ByteArray := prog_1_method_15_code
def yX8_lane : MethodName := ⟨RX8, "lane", "(II)I"⟩
abbrev cX8_refusalOfLane : ByteArray := prog_1_method_16_code
def yX8_refusalOfLane : MethodName := ⟨RX8, "refusalOfLane", "(II)I"⟩
abbrev cX8_close : ByteArray := prog_1_method_17_code
def yX8_close : MethodName := ⟨RX8, "close", "(II)I"⟩
abbrev cX8_idle : ByteArray := prog_1_method_18_code
def yX8_idle : MethodName := ⟨RX8, "idle", "(I)I"⟩
abbrev cX8_movesInThought : ByteArray := prog_1_method_19_code
def yX8_movesInThought : MethodName := ⟨RX8, "movesInThought", "(III)I"⟩
abbrev cX8_order : ByteArray := prog_1_method_20_code
def yX8_order : MethodName := ⟨RX8, "order", "(II)I"⟩
abbrev cX8_fewest : ByteArray := prog_1_method_21_code
def yX8_fewest : MethodName := ⟨RX8, "fewest", "()I"⟩
abbrev cX8_paints : ByteArray := prog_1_method_22_code
def yX8_paints : MethodName := ⟨RX8, "paints", "(II)I"⟩
abbrev cX8_refusalOfOrder : ByteArray := prog_1_method_23_code
def yX8_refusalOfOrder : MethodName := ⟨RX8, "refusalOfOrder", "(II)I"⟩
abbrev cX8_raise : ByteArray := prog_1_method_24_code
def yX8_raise : MethodName := ⟨RX8, "raise", "(I)I"⟩
abbrev cX8_when : ByteArray := prog_1_method_25_code
def yX8_when : MethodName := ⟨RX8, "when", "(III)I"⟩
abbrev cX8_rule : ByteArray := prog_1_method_26_code
def yX8_rule : MethodName := ⟨RX8, "rule", "(II)I"⟩
abbrev cX8_ahead : ByteArray := prog_1_method_27_code
def yX8_ahead : MethodName := ⟨RX8, "ahead", "(II)I"⟩
abbrev cX8_worthInOrder : ByteArray := prog_1_method_28_code
def yX8_worthInOrder : MethodName := ⟨RX8, "worthInOrder", "(I)I"⟩
abbrev cX8_built : ByteArray := prog_1_method_29_code
def yX8_built : MethodName := ⟨RX8, "built", "(I)I"⟩
abbrev cX8_blame : ByteArray := prog_1_method_30_code
def yX8_blame : MethodName := ⟨RX8, "blame", "()I"⟩
abbrev cX8_judge : ByteArray := prog_1_method_31_code
def yX8_judge : MethodName := ⟨RX8, "judge", "(I)I"⟩
abbrev cX8_refusalOfMap : ByteArray := prog_1_method_32_code
def yX8_refusalOfMap : MethodName := ⟨RX8, "refusalOfMap", "(I)I"⟩
abbrev cX8_firstOtherwise : ByteArray := prog_1_method_33_code
def yX8_firstOtherwise : MethodName := ⟨RX8, "firstOtherwise", "(II)I"⟩
abbrev cX8_plans : ByteArray := prog_1_method_34_code
def yX8_plans : MethodName := ⟨RX8, "plans", "(II)I"⟩
abbrev cX8_film : ByteArray := prog_1_method_35_code
def yX8_film : MethodName := ⟨RX8, "film", "(I)I"⟩
abbrev cX8_laws : ByteArray := prog_1_method_36_code
def yX8_laws : MethodName := ⟨RX8, "laws", "(III)I"⟩
abbrev cX8_drawn : ByteArray := prog_1_method_37_code
def yX8_drawn : MethodName := ⟨RX8, "drawn", "(I)I"⟩
abbrev cX8_isSeed : ByteArray := prog_1_method_38_code
def yX8_isSeed : MethodName := ⟨RX8, "isSeed", "(I)Z"⟩
abbrev cX8_coloursDrawn : ByteArray := prog_1_method_39_code
def yX8_coloursDrawn : MethodName := ⟨RX8, "coloursDrawn", "(I)I"⟩
abbrev cX8_odds : ByteArray := prog_1_method_40_code
def yX8_odds : MethodName := ⟨RX8, "odds", "(IIII)J"⟩
abbrev cX8_commonDivisor : ByteArray := prog_1_method_41_code
def yX8_commonDivisor : MethodName := ⟨RX8, "commonDivisor", "(II)I"⟩
abbrev cX8_image : ByteArray := prog_1_method_42_code
def yX8_image : MethodName := ⟨RX8, "image", "()I"⟩
abbrev cX8_back : ByteArray := prog_1_method_43_code
def yX8_back : MethodName := ⟨RX8, "back", "()I"⟩
abbrev cX8_sheet : ByteArray := prog_1_method_44_code
def yX8_sheet : MethodName := ⟨RX8, "sheet", "(III)I"⟩
abbrev cX8_cell : ByteArray := prog_1_method_45_code
def yX8_cell : MethodName := ⟨RX8, "cell", "(III)I"⟩
abbrev cX8_copy : ByteArray := prog_1_method_46_code
def yX8_copy : MethodName := ⟨RX8, "copy", "(IIIII)I"⟩
abbrev cX8_lotsBy : ByteArray := prog_1_method_47_code
def yX8_lotsBy : MethodName := ⟨RX8, "lotsBy", "(IIII)I"⟩
abbrev cX8_taken : ByteArray := prog_1_method_48_code
def yX8_taken : MethodName := ⟨RX8, "taken", "(II)I"⟩
def RX9 : String := "FirstColourModel"
def TX9 : u_T := fun k => match k with
  | 0 => ("FirstColourModel", "lots", "I", false)
  | 1 => ("FirstColourModel", "kind", "[I", true)
  | 2 => ("FirstColourModel", "moreOf", "[I", true)
  | 3 => ("FirstColourModel", "beside", "[I", true)
  | 4 => ("FirstColourModel", "colour", "[I", true)
  | 5 => ("FirstColourModel", "builtAt", "[I", true)
  | 6 => ("FirstColourModel", "builds", "I", false)
  | 7 => ("FirstColourModel", "tape", "[I", true)
  | 8 => ("FirstColourModel", "taped", "I", false)
  | 9 => ("FirstColourModel", "codes", "[I", true)
  | 10 => ("FirstColourModel", "starts", "[I", true)
  | 11 => ("FirstColourModel", "texts", "I", false)
  | 12 => ("FirstColourModel", "rule", "I", false)
  | 13 => ("FirstColourModel", "hasImage", "Z", false)
  | 14 => ("FirstColourModel", "imageLots", "I", false)
  | 15 => ("FirstColourModel", "imageBuilds", "I", false)
  | 16 => ("FirstColourModel", "imageRule", "I", false)
  | 17 => ("FirstColourModel", "imageRows", "[I", true)
  | 18 => ("FirstColourModel", "sheetSort", "[I", true)
  | 19 => ("FirstColourModel", "sheetSize", "[I", true)
  | 20 => ("FirstColourModel", "cells", "[I", true)
  | 21 => ("FirstColourModel", "law", "[I", true)
  | 22 => ("FirstColourModel", "at", "I", false)
  | 23 => ("FirstColourModel", "begun", "I", false)
  | 24 => ("FirstColourModel", "token", "I", false)
  | 25 => ("FirstColourModel", "value", "I", false)
  | 26 => ("FirstColourModel", "words", "[I", true)
  | 27 => ("FirstColourModel", "held", "[I", true)
  | 28 => ("FirstColourModel", "heldMany", "I", false)
  | 29 => ("FirstColourModel", "opens", "I", false)
  | 30 => ("FirstColourModel", "out", "I", false)
  | 31 => ("FirstColourModel", "stack", "[I", true)
  | 32 => ("FirstColourModel", "named", "[I", true)
  | 33 => ("FirstColourModel", "kept", "[I", true)
  | 34 => ("FirstColourModel", "keptBuilds", "I", false)
  | 35 => ("FirstColourModel", "row", "[I", true)
  | 36 => ("FirstColourModel", "rowMany", "I", false)
  | 37 => ("FirstColourModel", "painted", "[I", true)
  | _ => ("FirstColourModel", "firstFit", "I", false)
def tyX9 : Nat → FieldType := fun k => match k with
  | 0 => .int
  | 1 => .array .int
  | 2 => .array .int
  | 3 => .array .int
  | 4 => .array .int
  | 5 => .array .int
  | 6 => .int
  | 7 => .array .int
  | 8 => .int
  | 9 => .array .int
  | 10 => .array .int
  | 11 => .int
  | 12 => .int
  | 13 => .boolean
  | 14 => .int
  | 15 => .int
  | 16 => .int
  | 17 => .array .int
  | 18 => .array .int
  | 19 => .array .int
  | 20 => .array .int
  | 21 => .array .int
  | 22 => .int
  | 23 => .int
  | 24 => .int
  | 25 => .int
  | 26 => .array .int
  | 27 => .array .int
  | 28 => .int
  | 29 => .int
  | 30 => .int
  | 31 => .array .int
  | 32 => .array .int
  | 33 => .array .int
  | 34 => .int
  | 35 => .array .int
  | 36 => .int
  | 37 => .array .int
  | _ => .int
abbrev wsX90 : List Cond := u_ws RX9 TX9 39
theorem nmX9 : ∀ a, a < 39 → ∀ b, b < 39 → a ≠ b → (TX9 a).2.1 ≠ (TX9 b).2.1 := by decide +kernel
theorem tyX9_ok : ∀ k, k < 39 → parseFieldDescriptor (TX9 k).2.2.1 = some (tyX9 k) := by decide +kernel
abbrev cX9_init : ByteArray := prog_11_method_1_code
def yX9_init : MethodName := ⟨RX9, "<init>", "()V"⟩
abbrev cX9_in : ByteArray := prog_11_method_3_code
def yX9_in : MethodName := ⟨RX9, "in", "(III)Z"⟩
abbrev cX9_within : ByteArray := prog_11_method_4_code
def yX9_within : MethodName := ⟨RX9, "within", "(III)I"⟩
abbrev cX9_isLot : ByteArray := prog_11_method_5_code
def yX9_isLot : MethodName := ⟨RX9, "isLot", "(I)Z"⟩
abbrev cX9_areTwo : ByteArray := prog_11_method_6_code
def yX9_areTwo : MethodName := ⟨RX9, "areTwo", "(II)Z"⟩
abbrev cX9_areBeside : ByteArray := prog_11_method_7_code
def yX9_areBeside : MethodName := ⟨RX9, "areBeside", "(II)Z"⟩
abbrev cX9_isBuilt : ByteArray := prog_11_method_8_code
def yX9_isBuilt : MethodName := ⟨RX9, "isBuilt", "(I)Z"⟩
abbrev cX9_ones : ByteArray := prog_11_method_9_code
def yX9_ones : MethodName := ⟨RX9, "ones", "(I)I"⟩
abbrev cX9_builtSet : ByteArray := prog_11_method_10_code
def yX9_builtSet : MethodName := ⟨RX9, "builtSet", "()I"⟩
abbrev cX9_all : ByteArray := prog_11_method_11_code
def yX9_all : MethodName := ⟨RX9, "all", "()I"⟩
abbrev cX9_howMany : ByteArray := prog_11_method_12_code
def yX9_howMany : MethodName := ⟨RX9, "howMany", "()I"⟩
abbrev cX9_pairs : ByteArray := prog_11_method_13_code
def yX9_pairs : MethodName := ⟨RX9, "pairs", "()I"⟩
abbrev cX9_count : ByteArray := prog_11_method_14_code
def yX9_count : MethodName := ⟨RX9, "count", "(I)I"⟩
abbrev cX9_isByte : ByteArray := prog_11_method_15_code
def yX9_isByte : MethodName := ⟨RX9, "isByte", "(I)Z"⟩
abbrev cX9_feed : ByteArray := prog_11_method_16_code
def yX9_feed : MethodName := ⟨RX9, "feed", "(IIIIII)I"⟩
abbrev cX9_wordFrom : ByteArray := prog_11_method_17_code
def yX9_wordFrom : MethodName := ⟨RX9, "wordFrom", "(II)I"⟩
abbrev cX9_next : ByteArray := prog_11_method_18_code
def yX9_next : MethodName := ⟨RX9, "next", "()V"⟩
abbrev cX9_rank : ByteArray := prog_11_method_19_code
def yX9_rank : MethodName := ⟨RX9, "rank", "(I)I"⟩
abbrev cX9_puts : ByteArray := prog_11_method_20_code
def yX9_puts : MethodName := ⟨RX9, "puts", "(I)V"⟩
abbrev cX9_unwinds : ByteArray := prog_11_method_21_code
def yX9_unwinds : MethodName := ⟨RX9, "unwinds", "(I)V"⟩
abbrev cX9_holds : ByteArray := prog_11_method_22_code
def yX9_holds : MethodName := ⟨RX9, "holds", "(I)V"⟩
abbrev cX9_opensOne : ByteArray := prog_11_method_23_code
def yX9_opensOne : MethodName := ⟨RX9, "opensOne", "(I)Z"⟩
abbrev cX9_between : ByteArray := prog_11_method_24_code
def yX9_between : MethodName := ⟨RX9, "between", "(I)Z"⟩
abbrev cX9_signOf : ByteArray := prog_11_method_25_code
def yX9_signOf : MethodName := ⟨RX9, "signOf", "()I"⟩
abbrev cX9_eRead : ByteArray := prog_11_method_26_code
def yX9_eRead : MethodName := ⟨RX9, "eRead", "()Z"⟩
abbrev cX9_text : ByteArray := prog_11_method_27_code
def yX9_text : MethodName := ⟨RX9, "text", "()I"⟩
abbrev cX9_two : ByteArray := prog_11_method_28_code
def yX9_two : MethodName := ⟨RX9, "two", "(III)I"⟩
abbrev cX9_says : ByteArray := prog_11_method_29_code
def yX9_says : MethodName := ⟨RX9, "says", "(I)I"⟩
abbrev cX9_force : ByteArray := prog_11_method_30_code
def yX9_force : MethodName := ⟨RX9, "force", "(I)I"⟩
abbrev cX9_asksOf : ByteArray := prog_11_method_31_code
def yX9_asksOf : MethodName := ⟨RX9, "asksOf", "(IIII)I"⟩
abbrev cX9_asks : ByteArray := prog_11_method_32_code
def yX9_asks : MethodName := ⟨RX9, "asks", "(IIII)I"⟩
abbrev cX9_lot : ByteArray := prog_11_method_33_code
def yX9_lot : MethodName := ⟨RX9, "lot", "(III)I"⟩
abbrev cX9_told : ByteArray := prog_11_method_34_code
def yX9_told : MethodName := ⟨RX9, "told", "(II)I"⟩
abbrev cX9_takenBeside : ByteArray := prog_11_method_35_code
def yX9_takenBeside : MethodName := ⟨RX9, "takenBeside", "(I)I"⟩
abbrev cX9_least : ByteArray := prog_11_method_36_code
def yX9_least : MethodName := ⟨RX9, "least", "(I)I"⟩
abbrev cX9_greatest : ByteArray := prog_11_method_37_code
def yX9_greatest : MethodName := ⟨RX9, "greatest", "(I)I"⟩
abbrev cX9_wouldTake : ByteArray := prog_11_method_38_code
def yX9_wouldTake : MethodName := ⟨RX9, "wouldTake", "(I)I"⟩
abbrev cX9_builds : ByteArray := prog_11_method_39_code
def yX9_builds : MethodName := ⟨RX9, "builds", "(II)V"⟩
abbrev cX9_build : ByteArray := prog_11_method_40_code
def yX9_build : MethodName := ⟨RX9, "build", "(I)I"⟩
abbrev cX9_would : ByteArray := prog_11_method_41_code
def yX9_would : MethodName := ⟨RX9, "would", "(I)I"⟩
abbrev cX9_pull : ByteArray := prog_11_method_42_code
def yX9_pull : MethodName := ⟨RX9, "pull", "(I)I"⟩
abbrev cX9_paint : ByteArray := prog_11_method_43_code
def yX9_paint : MethodName := ⟨RX9, "paint", "(II)I"⟩
abbrev cX9_keeps : ByteArray := prog_11_method_44_code
def yX9_keeps : MethodName := ⟨RX9, "keeps", "()V"⟩
abbrev cX9_laysBack : ByteArray := prog_11_method_45_code
def yX9_laysBack : MethodName := ⟨RX9, "laysBack", "()V"⟩
abbrev cX9_younger : ByteArray := prog_11_method_46_code
def yX9_younger : MethodName := ⟨RX9, "younger", "(II)I"⟩
abbrev cX9_movesOf : ByteArray := prog_11_method_47_code
def yX9_movesOf : MethodName := ⟨RX9, "movesOf", "(II)I"⟩
abbrev cX9_nextMoves : ByteArray := prog_11_method_48_code
def yX9_nextMoves : MethodName := ⟨RX9, "nextMoves", "(I)I"⟩
abbrev cX9_lanes : ByteArray := prog_11_method_49_code
def yX9_lanes : MethodName := ⟨RX9, "lanes", "(II)I"⟩
abbrev cX9_lane : ByteArray := prog_11_method_50_code
def yX9_lane : MethodName := ⟨RX9, "lane", "(II)I"⟩
abbrev cX9_close : ByteArray := prog_11_method_51_code
def yX9_close : MethodName := ⟨RX9, "close", "(II)I"⟩
abbrev cX9_lanesThought : ByteArray := prog_11_method_52_code
def yX9_lanesThought : MethodName := ⟨RX9, "lanesThought", "(II)I"⟩
abbrev cX9_idle : ByteArray := prog_11_method_53_code
def yX9_idle : MethodName := ⟨RX9, "idle", "(I)I"⟩
abbrev cX9_begins : ByteArray := prog_11_method_54_code
def yX9_begins : MethodName := ⟨RX9, "begins", "(I)V"⟩
abbrev cX9_nextRow : ByteArray := prog_11_method_55_code
def yX9_nextRow : MethodName := ⟨RX9, "nextRow", "()Z"⟩
abbrev cX9_swapsRow : ByteArray := prog_11_method_56_code
def yX9_swapsRow : MethodName := ⟨RX9, "swapsRow", "(II)V"⟩
abbrev cX9_rowDigits : ByteArray := prog_11_method_57_code
def yX9_rowDigits : MethodName := ⟨RX9, "rowDigits", "()I"⟩
abbrev cX9_buildsRow : ByteArray := prog_11_method_58_code
def yX9_buildsRow : MethodName := ⟨RX9, "buildsRow", "(I)V"⟩
abbrev cX9_manyByRow : ByteArray := prog_11_method_59_code
def yX9_manyByRow : MethodName := ⟨RX9, "manyByRow", "()I"⟩
abbrev cX9_notBuilt : ByteArray := prog_11_method_60_code
def yX9_notBuilt : MethodName := ⟨RX9, "notBuilt", "()I"⟩
abbrev cX9_order : ByteArray := prog_11_method_61_code
def yX9_order : MethodName := ⟨RX9, "order", "(II)I"⟩
abbrev cX9_canPaint : ByteArray := prog_11_method_62_code
def yX9_canPaint : MethodName := ⟨RX9, "canPaint", "(II)Z"⟩
abbrev cX9_fewest : ByteArray := prog_11_method_63_code
def yX9_fewest : MethodName := ⟨RX9, "fewest", "()I"⟩
abbrev cX9_readsRow : ByteArray := prog_11_method_64_code
def yX9_readsRow : MethodName := ⟨RX9, "readsRow", "(II)I"⟩
abbrev cX9_paints : ByteArray := prog_11_method_65_code
def yX9_paints : MethodName := ⟨RX9, "paints", "(II)I"⟩
abbrev cX9_raise : ByteArray := prog_11_method_66_code
def yX9_raise : MethodName := ⟨RX9, "raise", "(I)I"⟩
abbrev cX9_worthBehind : ByteArray := prog_11_method_67_code
def yX9_worthBehind : MethodName := ⟨RX9, "worthBehind", "(II)I"⟩
abbrev cX9_when : ByteArray := prog_11_method_68_code
def yX9_when : MethodName := ⟨RX9, "when", "(III)I"⟩
abbrev cX9_sortsRow : ByteArray := prog_11_method_69_code
def yX9_sortsRow : MethodName := ⟨RX9, "sortsRow", "(I)V"⟩
abbrev cX9_rule : ByteArray := prog_11_method_70_code
def yX9_rule : MethodName := ⟨RX9, "rule", "(II)I"⟩
abbrev cX9_placeOf : ByteArray := prog_11_method_71_code
def yX9_placeOf : MethodName := ⟨RX9, "placeOf", "(I)I"⟩
abbrev cX9_worthInRow : ByteArray := prog_11_method_72_code
def yX9_worthInRow : MethodName := ⟨RX9, "worthInRow", "(I)I"⟩
abbrev cX9_ahead : ByteArray := prog_11_method_73_code
def yX9_ahead : MethodName := ⟨RX9, "ahead", "(II)I"⟩
abbrev cX9_fitsRow : ByteArray := prog_11_method_74_code
def yX9_fitsRow : MethodName := ⟨RX9, "fitsRow", "(I)Z"⟩
abbrev cX9_fittingRows : ByteArray := prog_11_method_75_code
def yX9_fittingRows : MethodName := ⟨RX9, "fittingRows", "(I)I"⟩
abbrev cX9_built : ByteArray := prog_11_method_76_code
def yX9_built : MethodName := ⟨RX9, "built", "(I)I"⟩
abbrev cX9_blame : ByteArray := prog_11_method_77_code
def yX9_blame : MethodName := ⟨RX9, "blame", "()I"⟩
abbrev cX9_sheetWrong : ByteArray := prog_11_method_78_code
def yX9_sheetWrong : MethodName := ⟨RX9, "sheetWrong", "(I)I"⟩
abbrev cX9_unlike : ByteArray := prog_11_method_79_code
def yX9_unlike : MethodName := ⟨RX9, "unlike", "(I)I"⟩
abbrev cX9_judge : ByteArray := prog_11_method_80_code
def yX9_judge : MethodName := ⟨RX9, "judge", "(I)I"⟩
abbrev cX9_isSoByRow : ByteArray := prog_11_method_81_code
def yX9_isSoByRow : MethodName := ⟨RX9, "isSoByRow", "(I)Z"⟩
abbrev cX9_plans : ByteArray := prog_11_method_82_code
def yX9_plans : MethodName := ⟨RX9, "plans", "(II)I"⟩
abbrev cX9_film : ByteArray := prog_11_method_83_code
def yX9_film : MethodName := ⟨RX9, "film", "(I)I"⟩
abbrev cX9_laws : ByteArray := prog_11_method_84_code
def yX9_laws : MethodName := ⟨RX9, "laws", "(III)I"⟩
abbrev cX9_manyBy : ByteArray := prog_11_method_85_code
def yX9_manyBy : MethodName := ⟨RX9, "manyBy", "(I)I"⟩
abbrev cX9_drawn : ByteArray := prog_11_method_86_code
def yX9_drawn : MethodName := ⟨RX9, "drawn", "(I)I"⟩
abbrev cX9_lowest : ByteArray := prog_11_method_87_code
def yX9_lowest : MethodName := ⟨RX9, "lowest", "(JJI)J"⟩
abbrev cX9_odds : ByteArray := prog_11_method_88_code
def yX9_odds : MethodName := ⟨RX9, "odds", "(IIII)J"⟩
abbrev cX9_image : ByteArray := prog_11_method_89_code
def yX9_image : MethodName := ⟨RX9, "image", "()I"⟩
abbrev cX9_back : ByteArray := prog_11_method_90_code
def yX9_back : MethodName := ⟨RX9, "back", "()I"⟩
abbrev cX9_sheet : ByteArray := prog_11_method_91_code
def yX9_sheet : MethodName := ⟨RX9, "sheet", "(III)I"⟩
abbrev cX9_cell : ByteArray := prog_11_method_92_code
def yX9_cell : MethodName := ⟨RX9, "cell", "(III)I"⟩
abbrev cX9_copy : ByteArray := prog_11_method_93_code
def yX9_copy : MethodName := ⟨RX9, "copy", "(IIIII)I"⟩
abbrev cX9_lotsBy : ByteArray := prog_11_method_94_code
def yX9_lotsBy : MethodName := ⟨RX9, "lotsBy", "(IIII)I"⟩
abbrev cX9_isUnder : ByteArray := prog_11_method_95_code
def yX9_isUnder : MethodName := ⟨RX9, "isUnder", "(II)Z"⟩
abbrev cX9_taken : ByteArray := prog_11_method_96_code
def yX9_taken : MethodName := ⟨RX9, "taken", "(II)I"⟩
def RJx145de : String := "java/io/Serializable"
def RJx9f9b0 : String := "java/lang/CharSequence"
def RJxb160c : String := "java/lang/Comparable"
def RJ6 : String := "java/lang/Integer"
abbrev cJ6_numberOfLeadingZeros_0f7a4 : ByteArray := prog_12_method_47_code
def yJ6_numberOfLeadingZeros_0f7a4 : MethodName := ⟨RJ6, "numberOfLeadingZeros", "(I)I"⟩
abbrev cJ6_numberOfTrailingZeros_0f7a4 : ByteArray := prog_12_method_48_code
def yJ6_numberOfTrailingZeros_0f7a4 : MethodName := ⟨RJ6, "numberOfTrailingZeros", "(I)I"⟩
abbrev cJ6_bitCount_0f7a4 : ByteArray := prog_12_method_49_code
def yJ6_bitCount_0f7a4 : MethodName := ⟨RJ6, "bitCount", "(I)I"⟩
def RJ9 : String := "java/lang/Math"
abbrev cJ9_max_7cf53 : ByteArray := prog_13_method_65_code
def yJ9_max_7cf53 : MethodName := ⟨RJ9, "max", "(II)I"⟩
abbrev cJ9_min_7cf53 : ByteArray := prog_13_method_69_code
def yJ9_min_7cf53 : MethodName := ⟨RJ9, "min", "(II)I"⟩
def RJ0 : String := "java/lang/String"
abbrev cJ0_length_8abf5 : ByteArray := prog_14_method_54_code
def yJ0_length_8abf5 : MethodName := ⟨RJ0, "length", "()I"⟩
abbrev cJ0_charAt_5068e : ByteArray := prog_14_method_56_code
def yJ0_charAt_5068e : MethodName := ⟨RJ0, "charAt", "(I)C"⟩
abbrev cJ0_coder_7d493 : ByteArray := prog_14_method_152_code
def yJ0_coder_7d493 : MethodName := ⟨RJ0, "coder", "()B"⟩
abbrev cJ0_isLatin1_aae02 : ByteArray := prog_14_method_154_code
def yJ0_isLatin1_aae02 : MethodName := ⟨RJ0, "isLatin1", "()Z"⟩
abbrev cJ0_checkIndex_df160 : ByteArray := prog_14_method_155_code
def yJ0_checkIndex_df160 : MethodName := ⟨RJ0, "checkIndex", "(II)V"⟩
def RJ1 : String := "java/lang/StringLatin1"
abbrev cJ1_charAt_3b067 : ByteArray := prog_15_method_2_code
def yJ1_charAt_3b067 : MethodName := ⟨RJ1, "charAt", "([BI)C"⟩
def RJ2 : String := "java/lang/StringUTF16"
abbrev cJ2_getChar_3b067 : ByteArray := prog_16_method_5_code
def yJ2_getChar_3b067 : MethodName := ⟨RJ2, "getChar", "([BI)C"⟩
abbrev cJ2_length_9d52b : ByteArray := prog_16_method_6_code
def yJ2_length_9d52b : MethodName := ⟨RJ2, "length", "([B)I"⟩
abbrev cJ2_charAt_3b067 : ByteArray := prog_16_method_83_code
def yJ2_charAt_3b067 : MethodName := ⟨RJ2, "charAt", "([BI)C"⟩
abbrev cJ2_checkIndex_2214a : ByteArray := prog_16_method_91_code
def yJ2_checkIndex_2214a : MethodName := ⟨RJ2, "checkIndex", "(I[B)V"⟩
def RJ10 : String := "java/lang/System"
def RJxfd54e : String := "java/lang/constant/Constable"
def RJx3cf43 : String := "java/lang/constant/ConstantDesc"
def RJ7 : String := "java/util/Arrays"
abbrev cJ7_fill_53178 : ByteArray := prog_18_method_103_code
def yJ7_fill_53178 : MethodName := ⟨RJ7, "fill", "([II)V"⟩
def RJ3 : String := "jdk/internal/util/Preconditions"
abbrev cJ3_checkIndex_8e157 : ByteArray := prog_19_method_11_code
def yJ3_checkIndex_8e157 : MethodName := ⟨RJ3, "checkIndex", "(IILjava/util/function/BiFunction;)I"⟩
def RL : String := "FirstColourLaw"
abbrev cL_law : ByteArray := code
abbrev vwCl : List vw_C := [(RX0, TX0, 3), (RX2, TX2, 2), (RX3, TX3, 10), (RX4, TX4, 3), (RX5, TX5, 3), (RX6, TX6, 8), (RX7, TX7, 9), (RX8, TX8, 9), (RX9, TX9, 39)]
