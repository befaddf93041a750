/-! ===== the pools hold what the tables say: words ===== -/
def qm_G : List Cond := lw_tbl.filter goodWord
theorem qm_G_good : qm_goodG qm_G := fun w hw => good_of_word (List.mem_filter.mp hw).2
theorem qm_inW {i : Nat} {w : Cond} (h : lw_tbl[i]? = some w) (g : goodWord w = true) : w ∈ qm_G := List.mem_filter.mpr ⟨List.mem_of_getElem? h, g⟩
def qm_inG (w : Cond) : Bool := goodWord w && decide (w ∈ lw_tbl)
theorem qm_inG_mem {w : Cond} (h : qm_inG w = true) : w ∈ qm_G := by
  simp only [qm_inG, Bool.and_eq_true, decide_eq_true_eq] at h
  exact List.mem_filter.mpr ⟨h.2, h.1⟩
theorem qm_allG {ws : List Cond} (h : ws.all qm_inG = true) : ∀ w ∈ ws, w ∈ qm_G := fun w hw => qm_inG_mem (List.all_eq_true.mp h w hw)
set_option maxRecDepth 100000 in
theorem qm_jwG : ∀ w ∈ qm_jw, w ∈ qm_G := qm_allG (by decide +kernel)
set_option maxRecDepth 100000 in
theorem qw_0 : Cond.selects "FirstColour$Reader" ⟨"FirstColour$Reader", "next", "()V"⟩ ⟨"FirstColour$Reader", "next", "()V"⟩ ∈ qm_G := qm_inW (i := 0) (by decide +kernel) rfl
set_option maxRecDepth 100000 in
theorem qw_1 : Cond.selects "FirstColour$Reader" ⟨"FirstColour$Reader", "readWord", "()V"⟩ ⟨"FirstColour$Reader", "readWord", "()V"⟩ ∈ qm_G := qm_inW (i := 1) (by decide +kernel) rfl
set_option maxRecDepth 100000 in
theorem qw_2 : Cond.selects "FirstColour$Reader" ⟨"FirstColour$Reader", "standsAtPlace", "(Ljava/lang/String;)Z"⟩ ⟨"FirstColour$Reader", "standsAtPlace", "(Ljava/lang/String;)Z"⟩ ∈ qm_G := qm_inW (i := 2) (by decide +kernel) rfl
set_option maxRecDepth 100000 in
theorem qw_3 : Cond.selects "FirstColour$Reader" ⟨"FirstColour$Reader", "fail", "()V"⟩ ⟨"FirstColour$Reader", "fail", "()V"⟩ ∈ qm_G := qm_inW (i := 3) (by decide +kernel) rfl
set_option maxRecDepth 100000 in
theorem qw_4 : Cond.selects "FirstColour$Reader" ⟨"FirstColour$Reader", "readNumber", "()V"⟩ ⟨"FirstColour$Reader", "readNumber", "()V"⟩ ∈ qm_G := qm_inW (i := 4) (by decide +kernel) rfl
set_option maxRecDepth 100000 in
theorem qw_5 : Cond.selects "FirstColour$Reader" ⟨"FirstColour$Reader", "expect", "(I)V"⟩ ⟨"FirstColour$Reader", "expect", "(I)V"⟩ ∈ qm_G := qm_inW (i := 5) (by decide +kernel) rfl
set_option maxRecDepth 100000 in
theorem qw_6 : Cond.selects "FirstColour$Reader" ⟨"FirstColour$Reader", "readOr", "(I)V"⟩ ⟨"FirstColour$Reader", "readOr", "(I)V"⟩ ∈ qm_G := qm_inW (i := 6) (by decide +kernel) rfl
set_option maxRecDepth 100000 in
theorem qw_7 : Cond.selects "FirstColour$Reader" ⟨"FirstColour$Reader", "readAnd", "(I)V"⟩ ⟨"FirstColour$Reader", "readAnd", "(I)V"⟩ ∈ qm_G := qm_inW (i := 7) (by decide +kernel) rfl
set_option maxRecDepth 100000 in
theorem qw_8 : Cond.selects "FirstColour$Reader" ⟨"FirstColour$Reader", "readNot", "(I)V"⟩ ⟨"FirstColour$Reader", "readNot", "(I)V"⟩ ∈ qm_G := qm_inW (i := 8) (by decide +kernel) rfl
set_option maxRecDepth 100000 in
theorem qw_9 : Cond.selects "FirstColour$Reader" ⟨"FirstColour$Reader", "mayOpen", "(I)Z"⟩ ⟨"FirstColour$Reader", "mayOpen", "(I)Z"⟩ ∈ qm_G := qm_inW (i := 9) (by decide +kernel) rfl
set_option maxRecDepth 100000 in
theorem qw_10 : Cond.selects "FirstColour$Reader" ⟨"FirstColour$Reader", "addStep", "(I)V"⟩ ⟨"FirstColour$Reader", "addStep", "(I)V"⟩ ∈ qm_G := qm_inW (i := 10) (by decide +kernel) rfl
set_option maxRecDepth 100000 in
theorem qw_11 : Cond.selects "FirstColour$Reader" ⟨"FirstColour$Reader", "readSum", "(I)V"⟩ ⟨"FirstColour$Reader", "readSum", "(I)V"⟩ ∈ qm_G := qm_inW (i := 11) (by decide +kernel) rfl
set_option maxRecDepth 100000 in
theorem qw_12 : Cond.selects "FirstColour$Reader" ⟨"FirstColour$Reader", "readTerm", "(I)V"⟩ ⟨"FirstColour$Reader", "readTerm", "(I)V"⟩ ∈ qm_G := qm_inW (i := 12) (by decide +kernel) rfl
set_option maxRecDepth 100000 in
theorem qw_13 : Cond.selects "FirstColour$Reader" ⟨"FirstColour$Reader", "readOne", "(I)V"⟩ ⟨"FirstColour$Reader", "readOne", "(I)V"⟩ ∈ qm_G := qm_inW (i := 13) (by decide +kernel) rfl
set_option maxRecDepth 100000 in
theorem qw_14 : Cond.selects "FirstColour$Texts" ⟨"FirstColour$Texts", "valueOf", "([III)I"⟩ ⟨"FirstColour$Texts", "valueOf", "([III)I"⟩ ∈ qm_G := qm_inW (i := 14) (by decide +kernel) rfl
set_option maxRecDepth 100000 in
theorem qw_15 : Cond.selects "FirstColour" ⟨"FirstColour", "refusalOfLane", "(II)I"⟩ ⟨"FirstColour", "refusalOfLane", "(II)I"⟩ ∈ qm_G := qm_inW (i := 15) (by decide +kernel) rfl
set_option maxRecDepth 100000 in
theorem qw_16 : Cond.selects "FirstColour" ⟨"FirstColour", "movesInThought", "(III)I"⟩ ⟨"FirstColour", "movesInThought", "(III)I"⟩ ∈ qm_G := qm_inW (i := 16) (by decide +kernel) rfl
set_option maxRecDepth 100000 in
theorem qw_17 : Cond.selects "FirstColour$Search" ⟨"FirstColour$Search", "canBeBetter", "(II)Z"⟩ ⟨"FirstColour$Search", "canBeBetter", "(II)Z"⟩ ∈ qm_G := qm_inW (i := 17) (by decide +kernel) rfl
set_option maxRecDepth 100000 in
theorem qw_18 : Cond.selects "FirstColour" ⟨"FirstColour", "refusalOfOrder", "(II)I"⟩ ⟨"FirstColour", "refusalOfOrder", "(II)I"⟩ ∈ qm_G := qm_inW (i := 18) (by decide +kernel) rfl
set_option maxRecDepth 100000 in
theorem qw_19 : Cond.selects "FirstColour$Order" ⟨"FirstColour$Order", "append", "(I)V"⟩ ⟨"FirstColour$Order", "append", "(I)V"⟩ ∈ qm_G := qm_inW (i := 19) (by decide +kernel) rfl
set_option maxRecDepth 100000 in
theorem qw_20 : Cond.selects "FirstColour" ⟨"FirstColour", "worthInOrder", "(I)I"⟩ ⟨"FirstColour", "worthInOrder", "(I)I"⟩ ∈ qm_G := qm_inW (i := 20) (by decide +kernel) rfl
set_option maxRecDepth 100000 in
theorem qw_21 : Cond.selects "FirstColour" ⟨"FirstColour", "refusalOfMap", "(I)I"⟩ ⟨"FirstColour", "refusalOfMap", "(I)I"⟩ ∈ qm_G := qm_inW (i := 21) (by decide +kernel) rfl
set_option maxRecDepth 100000 in
theorem qw_22 : Cond.selects "FirstColour" ⟨"FirstColour", "firstOtherwise", "(II)I"⟩ ⟨"FirstColour", "firstOtherwise", "(II)I"⟩ ∈ qm_G := qm_inW (i := 22) (by decide +kernel) rfl
set_option maxRecDepth 100000 in
theorem qw_23 : Cond.selects "FirstColour" ⟨"FirstColour", "coloursDrawn", "(I)I"⟩ ⟨"FirstColour", "coloursDrawn", "(I)I"⟩ ∈ qm_G := qm_inW (i := 23) (by decide +kernel) rfl
set_option maxRecDepth 100000 in
theorem qw_24 : Cond.selects "FirstColourModel" ⟨"FirstColourModel", "next", "()V"⟩ ⟨"FirstColourModel", "next", "()V"⟩ ∈ qm_G := qm_inW (i := 24) (by decide +kernel) rfl
set_option maxRecDepth 100000 in
theorem qw_25 : Cond.selects "FirstColourModel" ⟨"FirstColourModel", "wordFrom", "(II)I"⟩ ⟨"FirstColourModel", "wordFrom", "(II)I"⟩ ∈ qm_G := qm_inW (i := 25) (by decide +kernel) rfl
set_option maxRecDepth 100000 in
theorem qw_26 : Cond.selects "FirstColourModel" ⟨"FirstColourModel", "eRead", "()Z"⟩ ⟨"FirstColourModel", "eRead", "()Z"⟩ ∈ qm_G := qm_inW (i := 26) (by decide +kernel) rfl
set_option maxRecDepth 100000 in
theorem qw_27 : Cond.selects "FirstColourModel" ⟨"FirstColourModel", "puts", "(I)V"⟩ ⟨"FirstColourModel", "puts", "(I)V"⟩ ∈ qm_G := qm_inW (i := 27) (by decide +kernel) rfl
set_option maxRecDepth 100000 in
theorem qw_28 : Cond.selects "FirstColourModel" ⟨"FirstColourModel", "unwinds", "(I)V"⟩ ⟨"FirstColourModel", "unwinds", "(I)V"⟩ ∈ qm_G := qm_inW (i := 28) (by decide +kernel) rfl
set_option maxRecDepth 100000 in
theorem qw_29 : Cond.selects "FirstColourModel" ⟨"FirstColourModel", "opensOne", "(I)Z"⟩ ⟨"FirstColourModel", "opensOne", "(I)Z"⟩ ∈ qm_G := qm_inW (i := 29) (by decide +kernel) rfl
set_option maxRecDepth 100000 in
theorem qw_30 : Cond.selects "FirstColourModel" ⟨"FirstColourModel", "holds", "(I)V"⟩ ⟨"FirstColourModel", "holds", "(I)V"⟩ ∈ qm_G := qm_inW (i := 30) (by decide +kernel) rfl
set_option maxRecDepth 100000 in
theorem qw_31 : Cond.selects "FirstColourModel" ⟨"FirstColourModel", "signOf", "()I"⟩ ⟨"FirstColourModel", "signOf", "()I"⟩ ∈ qm_G := qm_inW (i := 31) (by decide +kernel) rfl
set_option maxRecDepth 100000 in
theorem qw_32 : Cond.selects "FirstColourModel" ⟨"FirstColourModel", "between", "(I)Z"⟩ ⟨"FirstColourModel", "between", "(I)Z"⟩ ∈ qm_G := qm_inW (i := 32) (by decide +kernel) rfl
set_option maxRecDepth 100000 in
theorem qw_33 : Cond.selects "FirstColourModel" ⟨"FirstColourModel", "builtSet", "()I"⟩ ⟨"FirstColourModel", "builtSet", "()I"⟩ ∈ qm_G := qm_inW (i := 33) (by decide +kernel) rfl
set_option maxRecDepth 100000 in
theorem qw_34 : Cond.selects "FirstColourModel" ⟨"FirstColourModel", "isBuilt", "(I)Z"⟩ ⟨"FirstColourModel", "isBuilt", "(I)Z"⟩ ∈ qm_G := qm_inW (i := 34) (by decide +kernel) rfl
set_option maxRecDepth 100000 in
theorem qw_35 : Cond.selects "FirstColourModel" ⟨"FirstColourModel", "howMany", "()I"⟩ ⟨"FirstColourModel", "howMany", "()I"⟩ ∈ qm_G := qm_inW (i := 35) (by decide +kernel) rfl
set_option maxRecDepth 100000 in
theorem qw_36 : Cond.selects "FirstColourModel" ⟨"FirstColourModel", "pairs", "()I"⟩ ⟨"FirstColourModel", "pairs", "()I"⟩ ∈ qm_G := qm_inW (i := 36) (by decide +kernel) rfl
set_option maxRecDepth 100000 in
theorem qw_37 : Cond.selects "FirstColourModel" ⟨"FirstColourModel", "isLot", "(I)Z"⟩ ⟨"FirstColourModel", "isLot", "(I)Z"⟩ ∈ qm_G := qm_inW (i := 37) (by decide +kernel) rfl
set_option maxRecDepth 100000 in
theorem qw_38 : Cond.selects "FirstColourModel" ⟨"FirstColourModel", "asksOf", "(IIII)I"⟩ ⟨"FirstColourModel", "asksOf", "(IIII)I"⟩ ∈ qm_G := qm_inW (i := 38) (by decide +kernel) rfl
set_option maxRecDepth 100000 in
theorem qw_39 : Cond.selects "FirstColourModel" ⟨"FirstColourModel", "says", "(I)I"⟩ ⟨"FirstColourModel", "says", "(I)I"⟩ ∈ qm_G := qm_inW (i := 39) (by decide +kernel) rfl
set_option maxRecDepth 100000 in
theorem qw_40 : Cond.selects "FirstColourModel" ⟨"FirstColourModel", "all", "()I"⟩ ⟨"FirstColourModel", "all", "()I"⟩ ∈ qm_G := qm_inW (i := 40) (by decide +kernel) rfl
set_option maxRecDepth 100000 in
theorem qw_41 : Cond.selects "FirstColourModel" ⟨"FirstColourModel", "wouldTake", "(I)I"⟩ ⟨"FirstColourModel", "wouldTake", "(I)I"⟩ ∈ qm_G := qm_inW (i := 41) (by decide +kernel) rfl
set_option maxRecDepth 100000 in
theorem qw_42 : Cond.selects "FirstColourModel" ⟨"FirstColourModel", "takenBeside", "(I)I"⟩ ⟨"FirstColourModel", "takenBeside", "(I)I"⟩ ∈ qm_G := qm_inW (i := 42) (by decide +kernel) rfl
set_option maxRecDepth 100000 in
theorem qw_43 : Cond.selects "FirstColourModel" ⟨"FirstColourModel", "areBeside", "(II)Z"⟩ ⟨"FirstColourModel", "areBeside", "(II)Z"⟩ ∈ qm_G := qm_inW (i := 43) (by decide +kernel) rfl
set_option maxRecDepth 100000 in
theorem qw_44 : Cond.selects "FirstColourModel" ⟨"FirstColourModel", "builds", "(II)V"⟩ ⟨"FirstColourModel", "builds", "(II)V"⟩ ∈ qm_G := qm_inW (i := 44) (by decide +kernel) rfl
set_option maxRecDepth 100000 in
theorem qw_45 : Cond.selects "FirstColourModel" ⟨"FirstColourModel", "areTwo", "(II)Z"⟩ ⟨"FirstColourModel", "areTwo", "(II)Z"⟩ ∈ qm_G := qm_inW (i := 45) (by decide +kernel) rfl
set_option maxRecDepth 100000 in
theorem qw_46 : Cond.selects "FirstColourModel" ⟨"FirstColourModel", "lanes", "(II)I"⟩ ⟨"FirstColourModel", "lanes", "(II)I"⟩ ∈ qm_G := qm_inW (i := 46) (by decide +kernel) rfl
set_option maxRecDepth 100000 in
theorem qw_47 : Cond.selects "FirstColourModel" ⟨"FirstColourModel", "movesOf", "(II)I"⟩ ⟨"FirstColourModel", "movesOf", "(II)I"⟩ ∈ qm_G := qm_inW (i := 47) (by decide +kernel) rfl
set_option maxRecDepth 100000 in
theorem qw_48 : Cond.selects "FirstColourModel" ⟨"FirstColourModel", "younger", "(II)I"⟩ ⟨"FirstColourModel", "younger", "(II)I"⟩ ∈ qm_G := qm_inW (i := 48) (by decide +kernel) rfl
set_option maxRecDepth 100000 in
theorem qw_49 : Cond.selects "FirstColourModel" ⟨"FirstColourModel", "nextMoves", "(I)I"⟩ ⟨"FirstColourModel", "nextMoves", "(I)I"⟩ ∈ qm_G := qm_inW (i := 49) (by decide +kernel) rfl
set_option maxRecDepth 100000 in
theorem qw_50 : Cond.selects "FirstColourModel" ⟨"FirstColourModel", "lanesThought", "(II)I"⟩ ⟨"FirstColourModel", "lanesThought", "(II)I"⟩ ∈ qm_G := qm_inW (i := 50) (by decide +kernel) rfl
set_option maxRecDepth 100000 in
theorem qw_51 : Cond.selects "FirstColourModel" ⟨"FirstColourModel", "keeps", "()V"⟩ ⟨"FirstColourModel", "keeps", "()V"⟩ ∈ qm_G := qm_inW (i := 51) (by decide +kernel) rfl
set_option maxRecDepth 100000 in
theorem qw_52 : Cond.selects "FirstColourModel" ⟨"FirstColourModel", "laysBack", "()V"⟩ ⟨"FirstColourModel", "laysBack", "()V"⟩ ∈ qm_G := qm_inW (i := 52) (by decide +kernel) rfl
set_option maxRecDepth 100000 in
theorem qw_53 : Cond.selects "FirstColourModel" ⟨"FirstColourModel", "notBuilt", "()I"⟩ ⟨"FirstColourModel", "notBuilt", "()I"⟩ ∈ qm_G := qm_inW (i := 53) (by decide +kernel) rfl
set_option maxRecDepth 100000 in
theorem qw_54 : Cond.selects "FirstColourModel" ⟨"FirstColourModel", "begins", "(I)V"⟩ ⟨"FirstColourModel", "begins", "(I)V"⟩ ∈ qm_G := qm_inW (i := 54) (by decide +kernel) rfl
set_option maxRecDepth 100000 in
theorem qw_55 : Cond.selects "FirstColourModel" ⟨"FirstColourModel", "manyByRow", "()I"⟩ ⟨"FirstColourModel", "manyByRow", "()I"⟩ ∈ qm_G := qm_inW (i := 55) (by decide +kernel) rfl
set_option maxRecDepth 100000 in
theorem qw_56 : Cond.selects "FirstColourModel" ⟨"FirstColourModel", "buildsRow", "(I)V"⟩ ⟨"FirstColourModel", "buildsRow", "(I)V"⟩ ∈ qm_G := qm_inW (i := 56) (by decide +kernel) rfl
set_option maxRecDepth 100000 in
theorem qw_57 : Cond.selects "FirstColourModel" ⟨"FirstColourModel", "rowDigits", "()I"⟩ ⟨"FirstColourModel", "rowDigits", "()I"⟩ ∈ qm_G := qm_inW (i := 57) (by decide +kernel) rfl
set_option maxRecDepth 100000 in
theorem qw_58 : Cond.selects "FirstColourModel" ⟨"FirstColourModel", "nextRow", "()Z"⟩ ⟨"FirstColourModel", "nextRow", "()Z"⟩ ∈ qm_G := qm_inW (i := 58) (by decide +kernel) rfl
set_option maxRecDepth 100000 in
theorem qw_59 : Cond.selects "FirstColourModel" ⟨"FirstColourModel", "swapsRow", "(II)V"⟩ ⟨"FirstColourModel", "swapsRow", "(II)V"⟩ ∈ qm_G := qm_inW (i := 59) (by decide +kernel) rfl
set_option maxRecDepth 100000 in
theorem qw_60 : Cond.selects "FirstColourModel" ⟨"FirstColourModel", "canPaint", "(II)Z"⟩ ⟨"FirstColourModel", "canPaint", "(II)Z"⟩ ∈ qm_G := qm_inW (i := 60) (by decide +kernel) rfl
set_option maxRecDepth 100000 in
theorem qw_61 : Cond.selects "FirstColourModel" ⟨"FirstColourModel", "readsRow", "(II)I"⟩ ⟨"FirstColourModel", "readsRow", "(II)I"⟩ ∈ qm_G := qm_inW (i := 61) (by decide +kernel) rfl
set_option maxRecDepth 100000 in
theorem qw_62 : Cond.selects "FirstColourModel" ⟨"FirstColourModel", "worthBehind", "(II)I"⟩ ⟨"FirstColourModel", "worthBehind", "(II)I"⟩ ∈ qm_G := qm_inW (i := 62) (by decide +kernel) rfl
set_option maxRecDepth 100000 in
theorem qw_63 : Cond.selects "FirstColourModel" ⟨"FirstColourModel", "sortsRow", "(I)V"⟩ ⟨"FirstColourModel", "sortsRow", "(I)V"⟩ ∈ qm_G := qm_inW (i := 63) (by decide +kernel) rfl
set_option maxRecDepth 100000 in
theorem qw_64 : Cond.selects "FirstColourModel" ⟨"FirstColourModel", "worthInRow", "(I)I"⟩ ⟨"FirstColourModel", "worthInRow", "(I)I"⟩ ∈ qm_G := qm_inW (i := 64) (by decide +kernel) rfl
set_option maxRecDepth 100000 in
theorem qw_65 : Cond.selects "FirstColourModel" ⟨"FirstColourModel", "placeOf", "(I)I"⟩ ⟨"FirstColourModel", "placeOf", "(I)I"⟩ ∈ qm_G := qm_inW (i := 65) (by decide +kernel) rfl
set_option maxRecDepth 100000 in
theorem qw_66 : Cond.selects "FirstColourModel" ⟨"FirstColourModel", "fittingRows", "(I)I"⟩ ⟨"FirstColourModel", "fittingRows", "(I)I"⟩ ∈ qm_G := qm_inW (i := 66) (by decide +kernel) rfl
set_option maxRecDepth 100000 in
theorem qw_67 : Cond.selects "FirstColourModel" ⟨"FirstColourModel", "fitsRow", "(I)Z"⟩ ⟨"FirstColourModel", "fitsRow", "(I)Z"⟩ ∈ qm_G := qm_inW (i := 67) (by decide +kernel) rfl
set_option maxRecDepth 100000 in
theorem qw_68 : Cond.selects "FirstColourModel" ⟨"FirstColourModel", "sheetWrong", "(I)I"⟩ ⟨"FirstColourModel", "sheetWrong", "(I)I"⟩ ∈ qm_G := qm_inW (i := 68) (by decide +kernel) rfl
set_option maxRecDepth 100000 in
theorem qw_69 : Cond.selects "FirstColourModel" ⟨"FirstColourModel", "unlike", "(I)I"⟩ ⟨"FirstColourModel", "unlike", "(I)I"⟩ ∈ qm_G := qm_inW (i := 69) (by decide +kernel) rfl
set_option maxRecDepth 100000 in
theorem qw_70 : Cond.selects "FirstColourModel" ⟨"FirstColourModel", "isSoByRow", "(I)Z"⟩ ⟨"FirstColourModel", "isSoByRow", "(I)Z"⟩ ∈ qm_G := qm_inW (i := 70) (by decide +kernel) rfl
set_option maxRecDepth 100000 in
theorem qw_71 : Cond.selects "FirstColourModel" ⟨"FirstColourModel", "manyBy", "(I)I"⟩ ⟨"FirstColourModel", "manyBy", "(I)I"⟩ ∈ qm_G := qm_inW (i := 71) (by decide +kernel) rfl
set_option maxRecDepth 100000 in
theorem qw_73 : (Jvm.Cond.initialized "FirstColour") ∈ qm_G := qm_inW (i := 73) (by decide +kernel) rfl
set_option maxRecDepth 100000 in
theorem qw_74 : (Jvm.Cond.initialized "FirstColour$Town") ∈ qm_G := qm_inW (i := 74) (by decide +kernel) rfl
set_option maxRecDepth 100000 in
theorem qw_75 : (Jvm.Cond.initialized "FirstColour$Texts") ∈ qm_G := qm_inW (i := 75) (by decide +kernel) rfl
set_option maxRecDepth 100000 in
theorem qw_76 : (Jvm.Cond.initialized "FirstColour$Reader") ∈ qm_G := qm_inW (i := 76) (by decide +kernel) rfl
set_option maxRecDepth 100000 in
theorem qw_81 : (Jvm.Cond.initialized "java/lang/System") ∈ qm_G := qm_inW (i := 81) (by decide +kernel) rfl
set_option maxRecDepth 100000 in
theorem qw_82 : (Jvm.Cond.initialized "FirstColour$Sheets") ∈ qm_G := qm_inW (i := 82) (by decide +kernel) rfl
set_option maxRecDepth 100000 in
theorem qw_83 : (Jvm.Cond.initialized "java/util/Arrays") ∈ qm_G := qm_inW (i := 83) (by decide +kernel) rfl
set_option maxRecDepth 100000 in
theorem qw_84 : (Jvm.Cond.initialized "FirstColour$Order") ∈ qm_G := qm_inW (i := 84) (by decide +kernel) rfl
set_option maxRecDepth 100000 in
theorem qw_85 : (Jvm.Cond.initialized "FirstColour$Search") ∈ qm_G := qm_inW (i := 85) (by decide +kernel) rfl
set_option maxRecDepth 100000 in
theorem qw_86 : (Jvm.Cond.initialized "FirstColour$Fits") ∈ qm_G := qm_inW (i := 86) (by decide +kernel) rfl
set_option maxRecDepth 100000 in
theorem qw_87 : (Jvm.Cond.initialized "FirstColourModel") ∈ qm_G := qm_inW (i := 87) (by decide +kernel) rfl
set_option maxRecDepth 100000 in
theorem qw_88 : (Jvm.Cond.initialized "java/lang/Integer") ∈ qm_G := qm_inW (i := 88) (by decide +kernel) rfl
set_option maxRecDepth 100000 in
theorem qw_89 : (Jvm.Cond.initialized "java/lang/Math") ∈ qm_G := qm_inW (i := 89) (by decide +kernel) rfl
set_option maxRecDepth 100000 in
theorem qw_90 : (Jvm.Cond.initialized "FirstColour$Lanes") ∈ qm_G := qm_inW (i := 90) (by decide +kernel) rfl
set_option maxRecDepth 100000 in
theorem qw_105 : (Jvm.Cond.fieldLink "FirstColour$Town" (27 : Nat) "FirstColour$Town" "lots" "I") ∈ qm_G := qm_inW (i := 105) (by decide +kernel) rfl
set_option maxRecDepth 100000 in
theorem qw_106 : (Jvm.Cond.fieldLink "FirstColour" (61 : Nat) "FirstColour$Town" "lots" "I") ∈ qm_G := qm_inW (i := 106) (by decide +kernel) rfl
set_option maxRecDepth 100000 in
theorem qw_107 : (Jvm.Cond.fieldLink "FirstColour$Fits" (22 : Nat) "FirstColour$Town" "lots" "I") ∈ qm_G := qm_inW (i := 107) (by decide +kernel) rfl
set_option maxRecDepth 100000 in
theorem qw_108 : (Jvm.Cond.fieldLink "FirstColour$Lanes" (33 : Nat) "FirstColour$Town" "lots" "I") ∈ qm_G := qm_inW (i := 108) (by decide +kernel) rfl
set_option maxRecDepth 100000 in
theorem qw_109 : (Jvm.Cond.fieldLink "FirstColour$Search" (46 : Nat) "FirstColour$Town" "lots" "I") ∈ qm_G := qm_inW (i := 109) (by decide +kernel) rfl
set_option maxRecDepth 100000 in
theorem qw_110 : (Jvm.Cond.fieldLink "FirstColour$Texts" (98 : Nat) "FirstColour$Town" "lots" "I") ∈ qm_G := qm_inW (i := 110) (by decide +kernel) rfl
set_option maxRecDepth 100000 in
theorem qw_111 : (Jvm.Cond.fieldLink "FirstColour$Town" (31 : Nat) "FirstColour$Town" "law" "I") ∈ qm_G := qm_inW (i := 111) (by decide +kernel) rfl
set_option maxRecDepth 100000 in
theorem qw_112 : (Jvm.Cond.fieldLink "FirstColour" (78 : Nat) "FirstColour$Town" "law" "I") ∈ qm_G := qm_inW (i := 112) (by decide +kernel) rfl
set_option maxRecDepth 100000 in
theorem qw_113 : (Jvm.Cond.fieldLink "FirstColour$Texts" (77 : Nat) "FirstColour$Town" "law" "I") ∈ qm_G := qm_inW (i := 113) (by decide +kernel) rfl
set_option maxRecDepth 100000 in
theorem qw_114 : (Jvm.Cond.fieldLink "FirstColour$Town" (34 : Nat) "FirstColour$Town" "builds" "I") ∈ qm_G := qm_inW (i := 114) (by decide +kernel) rfl
set_option maxRecDepth 100000 in
theorem qw_115 : (Jvm.Cond.fieldLink "FirstColour$Town" (37 : Nat) "FirstColour$Town" "builtBits" "I") ∈ qm_G := qm_inW (i := 115) (by decide +kernel) rfl
set_option maxRecDepth 100000 in
theorem qw_116 : (Jvm.Cond.fieldLink "FirstColour" (65 : Nat) "FirstColour$Town" "builtBits" "I") ∈ qm_G := qm_inW (i := 116) (by decide +kernel) rfl
set_option maxRecDepth 100000 in
theorem qw_117 : (Jvm.Cond.fieldLink "FirstColour$Town" (9 : Nat) "FirstColour$Town" "kinds" "[I") ∈ qm_G := qm_inW (i := 117) (by decide +kernel) rfl
set_option maxRecDepth 100000 in
theorem qw_118 : (Jvm.Cond.fieldLink "FirstColour" (113 : Nat) "FirstColour$Town" "kinds" "[I") ∈ qm_G := qm_inW (i := 118) (by decide +kernel) rfl
set_option maxRecDepth 100000 in
theorem qw_119 : (Jvm.Cond.fieldLink "FirstColour$Town" (15 : Nat) "FirstColour$Town" "mores" "[I") ∈ qm_G := qm_inW (i := 119) (by decide +kernel) rfl
set_option maxRecDepth 100000 in
theorem qw_120 : (Jvm.Cond.fieldLink "FirstColour$Texts" (95 : Nat) "FirstColour$Town" "mores" "[I") ∈ qm_G := qm_inW (i := 120) (by decide +kernel) rfl
set_option maxRecDepth 100000 in
theorem qw_121 : (Jvm.Cond.fieldLink "FirstColour" (117 : Nat) "FirstColour$Town" "mores" "[I") ∈ qm_G := qm_inW (i := 121) (by decide +kernel) rfl
set_option maxRecDepth 100000 in
theorem qw_122 : (Jvm.Cond.fieldLink "FirstColour$Town" (18 : Nat) "FirstColour$Town" "besides" "[I") ∈ qm_G := qm_inW (i := 122) (by decide +kernel) rfl
set_option maxRecDepth 100000 in
theorem qw_123 : (Jvm.Cond.fieldLink "FirstColour$Texts" (86 : Nat) "FirstColour$Town" "besides" "[I") ∈ qm_G := qm_inW (i := 123) (by decide +kernel) rfl
set_option maxRecDepth 100000 in
theorem qw_124 : (Jvm.Cond.fieldLink "FirstColour$Fits" (53 : Nat) "FirstColour$Town" "besides" "[I") ∈ qm_G := qm_inW (i := 124) (by decide +kernel) rfl
set_option maxRecDepth 100000 in
theorem qw_125 : (Jvm.Cond.fieldLink "FirstColour$Order" (52 : Nat) "FirstColour$Town" "besides" "[I") ∈ qm_G := qm_inW (i := 125) (by decide +kernel) rfl
set_option maxRecDepth 100000 in
theorem qw_126 : (Jvm.Cond.fieldLink "FirstColour" (120 : Nat) "FirstColour$Town" "besides" "[I") ∈ qm_G := qm_inW (i := 126) (by decide +kernel) rfl
set_option maxRecDepth 100000 in
theorem qw_127 : (Jvm.Cond.fieldLink "FirstColour$Town" (21 : Nat) "FirstColour$Town" "colours" "[I") ∈ qm_G := qm_inW (i := 127) (by decide +kernel) rfl
set_option maxRecDepth 100000 in
theorem qw_128 : (Jvm.Cond.fieldLink "FirstColour$Lanes" (21 : Nat) "FirstColour$Town" "colours" "[I") ∈ qm_G := qm_inW (i := 128) (by decide +kernel) rfl
set_option maxRecDepth 100000 in
theorem qw_129 : (Jvm.Cond.fieldLink "FirstColour" (142 : Nat) "FirstColour$Town" "colours" "[I") ∈ qm_G := qm_inW (i := 129) (by decide +kernel) rfl
set_option maxRecDepth 100000 in
theorem qw_130 : (Jvm.Cond.fieldLink "FirstColour$Town" (24 : Nat) "FirstColour$Town" "stamps" "[I") ∈ qm_G := qm_inW (i := 130) (by decide +kernel) rfl
set_option maxRecDepth 100000 in
theorem qw_131 : (Jvm.Cond.fieldLink "FirstColour$Lanes" (45 : Nat) "FirstColour$Town" "stamps" "[I") ∈ qm_G := qm_inW (i := 131) (by decide +kernel) rfl
set_option maxRecDepth 100000 in
theorem qw_132 : (Jvm.Cond.fieldLink "FirstColour" (130 : Nat) "FirstColour$Town" "stamps" "[I") ∈ qm_G := qm_inW (i := 132) (by decide +kernel) rfl
set_option maxRecDepth 100000 in
theorem qw_165 : (Jvm.Cond.fieldLink "FirstColour$Reader" (9 : Nat) "FirstColour$Reader" "code" "[I") ∈ qm_G := qm_inW (i := 165) (by decide +kernel) rfl
set_option maxRecDepth 100000 in
theorem qw_166 : (Jvm.Cond.fieldLink "FirstColour$Texts" (66 : Nat) "FirstColour$Reader" "code" "[I") ∈ qm_G := qm_inW (i := 166) (by decide +kernel) rfl
set_option maxRecDepth 100000 in
theorem qw_167 : (Jvm.Cond.fieldLink "FirstColour$Reader" (15 : Nat) "FirstColour$Reader" "starts" "[I") ∈ qm_G := qm_inW (i := 167) (by decide +kernel) rfl
set_option maxRecDepth 100000 in
theorem qw_168 : (Jvm.Cond.fieldLink "FirstColour$Texts" (75 : Nat) "FirstColour$Reader" "starts" "[I") ∈ qm_G := qm_inW (i := 168) (by decide +kernel) rfl
set_option maxRecDepth 100000 in
theorem qw_169 : (Jvm.Cond.fieldLink "FirstColour$Reader" (18 : Nat) "FirstColour$Reader" "tape" "[I") ∈ qm_G := qm_inW (i := 169) (by decide +kernel) rfl
set_option maxRecDepth 100000 in
theorem qw_170 : (Jvm.Cond.fieldLink "FirstColour$Reader" (27 : Nat) "FirstColour$Reader" "tapeSize" "I") ∈ qm_G := qm_inW (i := 170) (by decide +kernel) rfl
set_option maxRecDepth 100000 in
theorem qw_171 : (Jvm.Cond.fieldLink "FirstColour$Reader" (31 : Nat) "FirstColour$Reader" "codeSize" "I") ∈ qm_G := qm_inW (i := 171) (by decide +kernel) rfl
set_option maxRecDepth 100000 in
theorem qw_172 : (Jvm.Cond.fieldLink "FirstColour$Reader" (34 : Nat) "FirstColour$Reader" "at" "I") ∈ qm_G := qm_inW (i := 172) (by decide +kernel) rfl
set_option maxRecDepth 100000 in
theorem qw_173 : (Jvm.Cond.fieldLink "FirstColour$Reader" (56 : Nat) "FirstColour$Reader" "place" "I") ∈ qm_G := qm_inW (i := 173) (by decide +kernel) rfl
set_option maxRecDepth 100000 in
theorem qw_174 : (Jvm.Cond.fieldLink "FirstColour$Reader" (50 : Nat) "FirstColour$Reader" "token" "I") ∈ qm_G := qm_inW (i := 174) (by decide +kernel) rfl
set_option maxRecDepth 100000 in
theorem qw_175 : (Jvm.Cond.fieldLink "FirstColour$Reader" (81 : Nat) "FirstColour$Reader" "value" "I") ∈ qm_G := qm_inW (i := 175) (by decide +kernel) rfl
set_option maxRecDepth 100000 in
theorem qw_176 : (Jvm.Cond.fieldLink "FirstColour$Reader" (37 : Nat) "FirstColour$Reader" "fault" "I") ∈ qm_G := qm_inW (i := 176) (by decide +kernel) rfl
set_option maxRecDepth 100000 in
theorem qw_201 : (Jvm.Cond.methodLink "FirstColour$Texts" (38 : Nat) ({ cls := "java/lang/String", name := "length", desc := "()I" } : Jvm.MethodName)) ∈ qm_G := qm_inW (i := 201) (by decide +kernel) rfl
set_option maxRecDepth 100000 in
theorem qw_202 : (Jvm.Cond.instanceMethod ({ cls := "java/lang/String", name := "length", desc := "()I" } : Jvm.MethodName)) ∈ qm_G := qm_inW (i := 202) (by decide +kernel) rfl
set_option maxRecDepth 100000 in
theorem qw_203 : (Jvm.Cond.selects "java/lang/String" ({ cls := "java/lang/String", name := "length", desc := "()I" } : Jvm.MethodName) ({ cls := "java/lang/String", name := "length", desc := "()I" } : Jvm.MethodName)) ∈ qm_G := qm_inW (i := 203) (by decide +kernel) rfl
set_option maxRecDepth 100000 in
theorem qw_204 : (Jvm.Cond.code ({ cls := "java/lang/String", name := "length", desc := "()I" } : Jvm.MethodName) prog_14_method_54_code (1 : Nat) (Option.some Jvm.ClassFile.FieldType.int)) ∈ qm_G := qm_inW (i := 204) (by decide +kernel) rfl
set_option maxRecDepth 100000 in
theorem qw_211 : (Jvm.Cond.methodLink "FirstColour$Texts" (44 : Nat) ({ cls := "java/lang/String", name := "charAt", desc := "(I)C" } : Jvm.MethodName)) ∈ qm_G := qm_inW (i := 211) (by decide +kernel) rfl
set_option maxRecDepth 100000 in
theorem qw_212 : (Jvm.Cond.instanceMethod ({ cls := "java/lang/String", name := "charAt", desc := "(I)C" } : Jvm.MethodName)) ∈ qm_G := qm_inW (i := 212) (by decide +kernel) rfl
set_option maxRecDepth 100000 in
theorem qw_213 : (Jvm.Cond.selects "java/lang/String" ({ cls := "java/lang/String", name := "charAt", desc := "(I)C" } : Jvm.MethodName) ({ cls := "java/lang/String", name := "charAt", desc := "(I)C" } : Jvm.MethodName)) ∈ qm_G := qm_inW (i := 213) (by decide +kernel) rfl
set_option maxRecDepth 100000 in
theorem qw_214 : (Jvm.Cond.code ({ cls := "java/lang/String", name := "charAt", desc := "(I)C" } : Jvm.MethodName) prog_14_method_56_code (2 : Nat) (Option.some Jvm.ClassFile.FieldType.char)) ∈ qm_G := qm_inW (i := 214) (by decide +kernel) rfl
set_option maxRecDepth 100000 in
theorem qw_249 : (Jvm.Cond.methodLink "FirstColour$Texts" (48 : Nat) ({ cls := "FirstColour$Texts", name := "addByte", desc := "(I)V" } : Jvm.MethodName)) ∈ qm_G := qm_inW (i := 249) (by decide +kernel) rfl
set_option maxRecDepth 100000 in
theorem qw_250 : (Jvm.Cond.instanceMethod ({ cls := "FirstColour$Texts", name := "addByte", desc := "(I)V" } : Jvm.MethodName)) ∈ qm_G := qm_inW (i := 250) (by decide +kernel) rfl
set_option maxRecDepth 100000 in
theorem qw_251 : (Jvm.Cond.selects "FirstColour$Texts" ({ cls := "FirstColour$Texts", name := "addByte", desc := "(I)V" } : Jvm.MethodName) ({ cls := "FirstColour$Texts", name := "addByte", desc := "(I)V" } : Jvm.MethodName)) ∈ qm_G := qm_inW (i := 251) (by decide +kernel) rfl
set_option maxRecDepth 100000 in
theorem qw_252 : (Jvm.Cond.code ({ cls := "FirstColour$Texts", name := "addByte", desc := "(I)V" } : Jvm.MethodName) prog_8_method_2_code (2 : Nat) (Option.none : Option Jvm.ClassFile.FieldType)) ∈ qm_G := qm_inW (i := 252) (by decide +kernel) rfl
set_option maxRecDepth 100000 in
theorem qw_253 : (Jvm.Cond.methodLink "FirstColour$Texts" (52 : Nat) ({ cls := "FirstColour$Texts", name := "readTape", desc := "()I" } : Jvm.MethodName)) ∈ qm_G := qm_inW (i := 253) (by decide +kernel) rfl
set_option maxRecDepth 100000 in
theorem qw_254 : (Jvm.Cond.instanceMethod ({ cls := "FirstColour$Texts", name := "readTape", desc := "()I" } : Jvm.MethodName)) ∈ qm_G := qm_inW (i := 254) (by decide +kernel) rfl
set_option maxRecDepth 100000 in
theorem qw_255 : (Jvm.Cond.selects "FirstColour$Texts" ({ cls := "FirstColour$Texts", name := "readTape", desc := "()I" } : Jvm.MethodName) ({ cls := "FirstColour$Texts", name := "readTape", desc := "()I" } : Jvm.MethodName)) ∈ qm_G := qm_inW (i := 255) (by decide +kernel) rfl
set_option maxRecDepth 100000 in
theorem qw_256 : (Jvm.Cond.code ({ cls := "FirstColour$Texts", name := "readTape", desc := "()I" } : Jvm.MethodName) prog_8_method_3_code (2 : Nat) (Option.some Jvm.ClassFile.FieldType.int)) ∈ qm_G := qm_inW (i := 256) (by decide +kernel) rfl
set_option maxRecDepth 100000 in
theorem qw_257 : (Jvm.Cond.methodLink "FirstColour$Texts" (59 : Nat) ({ cls := "FirstColour$Reader", name := "read", desc := "([II)I" } : Jvm.MethodName)) ∈ qm_G := qm_inW (i := 257) (by decide +kernel) rfl
set_option maxRecDepth 100000 in
theorem qw_258 : (Jvm.Cond.instanceMethod ({ cls := "FirstColour$Reader", name := "read", desc := "([II)I" } : Jvm.MethodName)) ∈ qm_G := qm_inW (i := 258) (by decide +kernel) rfl
set_option maxRecDepth 100000 in
theorem qw_259 : (Jvm.Cond.selects "FirstColour$Reader" ({ cls := "FirstColour$Reader", name := "read", desc := "([II)I" } : Jvm.MethodName) ({ cls := "FirstColour$Reader", name := "read", desc := "([II)I" } : Jvm.MethodName)) ∈ qm_G := qm_inW (i := 259) (by decide +kernel) rfl
set_option maxRecDepth 100000 in
theorem qw_260 : (Jvm.Cond.code ({ cls := "FirstColour$Reader", name := "read", desc := "([II)I" } : Jvm.MethodName) prog_5_method_2_code (4 : Nat) (Option.some Jvm.ClassFile.FieldType.int)) ∈ qm_G := qm_inW (i := 260) (by decide +kernel) rfl
set_option maxRecDepth 100000 in
theorem qw_261 : (Jvm.Cond.methodLink "FirstColour$Reader" (21 : Nat) ({ cls := "java/lang/System", name := "arraycopy", desc := "(Ljava/lang/Object;ILjava/lang/Object;II)V" } : Jvm.MethodName)) ∈ qm_G := qm_inW (i := 261) (by decide +kernel) rfl
set_option maxRecDepth 100000 in
theorem qw_262 : (Jvm.Cond.static ({ cls := "java/lang/System", name := "arraycopy", desc := "(Ljava/lang/Object;ILjava/lang/Object;II)V" } : Jvm.MethodName)) ∈ qm_G := qm_inW (i := 262) (by decide +kernel) rfl
set_option maxRecDepth 100000 in
theorem qw_263 : (Jvm.Cond.native ({ cls := "java/lang/System", name := "arraycopy", desc := "(Ljava/lang/Object;ILjava/lang/Object;II)V" } : Jvm.MethodName)) ∈ qm_G := qm_inW (i := 263) (by decide +kernel) rfl
set_option maxRecDepth 100000 in
theorem qw_264 : (Jvm.Cond.methodLink "FirstColour$Reader" (40 : Nat) ({ cls := "FirstColour$Reader", name := "next", desc := "()V" } : Jvm.MethodName)) ∈ qm_G := qm_inW (i := 264) (by decide +kernel) rfl
set_option maxRecDepth 100000 in
theorem qw_266 : (Jvm.Cond.instanceMethod ({ cls := "FirstColour$Reader", name := "next", desc := "()V" } : Jvm.MethodName)) ∈ qm_G := qm_inW (i := 266) (by decide +kernel) rfl
set_option maxRecDepth 100000 in
theorem qw_267 : (Jvm.Cond.code ({ cls := "FirstColour$Reader", name := "next", desc := "()V" } : Jvm.MethodName) prog_5_method_13_code (1 : Nat) (Option.none : Option Jvm.ClassFile.FieldType)) ∈ qm_G := qm_inW (i := 267) (by decide +kernel) rfl
set_option maxRecDepth 100000 in
theorem qw_268 : (Jvm.Cond.methodLink "FirstColour$Reader" (84 : Nat) ({ cls := "FirstColour$Reader", name := "isLetter", desc := "(I)Z" } : Jvm.MethodName)) ∈ qm_G := qm_inW (i := 268) (by decide +kernel) rfl
set_option maxRecDepth 100000 in
theorem qw_269 : (Jvm.Cond.static ({ cls := "FirstColour$Reader", name := "isLetter", desc := "(I)Z" } : Jvm.MethodName)) ∈ qm_G := qm_inW (i := 269) (by decide +kernel) rfl
set_option maxRecDepth 100000 in
theorem qw_270 : (Jvm.Cond.code ({ cls := "FirstColour$Reader", name := "isLetter", desc := "(I)Z" } : Jvm.MethodName) prog_5_method_18_code (1 : Nat) (Option.some Jvm.ClassFile.FieldType.boolean)) ∈ qm_G := qm_inW (i := 270) (by decide +kernel) rfl
set_option maxRecDepth 100000 in
theorem qw_271 : (Jvm.Cond.methodLink "FirstColour$Reader" (87 : Nat) ({ cls := "FirstColour$Reader", name := "readWord", desc := "()V" } : Jvm.MethodName)) ∈ qm_G := qm_inW (i := 271) (by decide +kernel) rfl
set_option maxRecDepth 100000 in
theorem qw_273 : (Jvm.Cond.instanceMethod ({ cls := "FirstColour$Reader", name := "readWord", desc := "()V" } : Jvm.MethodName)) ∈ qm_G := qm_inW (i := 273) (by decide +kernel) rfl
set_option maxRecDepth 100000 in
theorem qw_274 : (Jvm.Cond.code ({ cls := "FirstColour$Reader", name := "readWord", desc := "()V" } : Jvm.MethodName) prog_5_method_14_code (2 : Nat) (Option.none : Option Jvm.ClassFile.FieldType)) ∈ qm_G := qm_inW (i := 274) (by decide +kernel) rfl
set_option maxRecDepth 100000 in
theorem qw_275 : (Jvm.Cond.methodLink "FirstColour$Reader" (99 : Nat) ({ cls := "FirstColour$Reader", name := "word", desc := "(I)Ljava/lang/String;" } : Jvm.MethodName)) ∈ qm_G := qm_inW (i := 275) (by decide +kernel) rfl
set_option maxRecDepth 100000 in
theorem qw_276 : (Jvm.Cond.static ({ cls := "FirstColour$Reader", name := "word", desc := "(I)Ljava/lang/String;" } : Jvm.MethodName)) ∈ qm_G := qm_inW (i := 276) (by decide +kernel) rfl
set_option maxRecDepth 100000 in
theorem qw_277 : (Jvm.Cond.code ({ cls := "FirstColour$Reader", name := "word", desc := "(I)Ljava/lang/String;" } : Jvm.MethodName) prog_5_method_17_code (1 : Nat) (Option.some (Jvm.ClassFile.FieldType.object "java/lang/String"))) ∈ qm_G := qm_inW (i := 277) (by decide +kernel) rfl
set_option maxRecDepth 100000 in
theorem qw_290 : (Jvm.Cond.methodLink "FirstColour$Reader" (103 : Nat) ({ cls := "FirstColour$Reader", name := "standsAtPlace", desc := "(Ljava/lang/String;)Z" } : Jvm.MethodName)) ∈ qm_G := qm_inW (i := 290) (by decide +kernel) rfl
set_option maxRecDepth 100000 in
theorem qw_292 : (Jvm.Cond.instanceMethod ({ cls := "FirstColour$Reader", name := "standsAtPlace", desc := "(Ljava/lang/String;)Z" } : Jvm.MethodName)) ∈ qm_G := qm_inW (i := 292) (by decide +kernel) rfl
set_option maxRecDepth 100000 in
theorem qw_293 : (Jvm.Cond.code ({ cls := "FirstColour$Reader", name := "standsAtPlace", desc := "(Ljava/lang/String;)Z" } : Jvm.MethodName) prog_5_method_16_code (3 : Nat) (Option.some Jvm.ClassFile.FieldType.boolean)) ∈ qm_G := qm_inW (i := 293) (by decide +kernel) rfl
set_option maxRecDepth 100000 in
theorem qw_294 : (Jvm.Cond.methodLink "FirstColour$Reader" (107 : Nat) ({ cls := "java/lang/String", name := "length", desc := "()I" } : Jvm.MethodName)) ∈ qm_G := qm_inW (i := 294) (by decide +kernel) rfl
set_option maxRecDepth 100000 in
theorem qw_295 : (Jvm.Cond.methodLink "FirstColour$Reader" (113 : Nat) ({ cls := "java/lang/String", name := "charAt", desc := "(I)C" } : Jvm.MethodName)) ∈ qm_G := qm_inW (i := 295) (by decide +kernel) rfl
set_option maxRecDepth 100000 in
theorem qw_296 : (Jvm.Cond.methodLink "FirstColour$Reader" (53 : Nat) ({ cls := "FirstColour$Reader", name := "fail", desc := "()V" } : Jvm.MethodName)) ∈ qm_G := qm_inW (i := 296) (by decide +kernel) rfl
set_option maxRecDepth 100000 in
theorem qw_298 : (Jvm.Cond.instanceMethod ({ cls := "FirstColour$Reader", name := "fail", desc := "()V" } : Jvm.MethodName)) ∈ qm_G := qm_inW (i := 298) (by decide +kernel) rfl
set_option maxRecDepth 100000 in
theorem qw_299 : (Jvm.Cond.code ({ cls := "FirstColour$Reader", name := "fail", desc := "()V" } : Jvm.MethodName) prog_5_method_3_code (1 : Nat) (Option.none : Option Jvm.ClassFile.FieldType)) ∈ qm_G := qm_inW (i := 299) (by decide +kernel) rfl
set_option maxRecDepth 100000 in
theorem qw_300 : (Jvm.Cond.methodLink "FirstColour$Reader" (90 : Nat) ({ cls := "FirstColour$Reader", name := "isDigit", desc := "(I)Z" } : Jvm.MethodName)) ∈ qm_G := qm_inW (i := 300) (by decide +kernel) rfl
set_option maxRecDepth 100000 in
theorem qw_301 : (Jvm.Cond.static ({ cls := "FirstColour$Reader", name := "isDigit", desc := "(I)Z" } : Jvm.MethodName)) ∈ qm_G := qm_inW (i := 301) (by decide +kernel) rfl
set_option maxRecDepth 100000 in
theorem qw_302 : (Jvm.Cond.code ({ cls := "FirstColour$Reader", name := "isDigit", desc := "(I)Z" } : Jvm.MethodName) prog_5_method_19_code (1 : Nat) (Option.some Jvm.ClassFile.FieldType.boolean)) ∈ qm_G := qm_inW (i := 302) (by decide +kernel) rfl
set_option maxRecDepth 100000 in
theorem qw_303 : (Jvm.Cond.methodLink "FirstColour$Reader" (93 : Nat) ({ cls := "FirstColour$Reader", name := "readNumber", desc := "()V" } : Jvm.MethodName)) ∈ qm_G := qm_inW (i := 303) (by decide +kernel) rfl
set_option maxRecDepth 100000 in
theorem qw_305 : (Jvm.Cond.instanceMethod ({ cls := "FirstColour$Reader", name := "readNumber", desc := "()V" } : Jvm.MethodName)) ∈ qm_G := qm_inW (i := 305) (by decide +kernel) rfl
set_option maxRecDepth 100000 in
theorem qw_306 : (Jvm.Cond.code ({ cls := "FirstColour$Reader", name := "readNumber", desc := "()V" } : Jvm.MethodName) prog_5_method_15_code (1 : Nat) (Option.none : Option Jvm.ClassFile.FieldType)) ∈ qm_G := qm_inW (i := 306) (by decide +kernel) rfl
set_option maxRecDepth 100000 in
theorem qw_307 : (Jvm.Cond.methodLink "FirstColour$Reader" (96 : Nat) ({ cls := "FirstColour$Reader", name := "isSign", desc := "(I)Z" } : Jvm.MethodName)) ∈ qm_G := qm_inW (i := 307) (by decide +kernel) rfl
set_option maxRecDepth 100000 in
theorem qw_308 : (Jvm.Cond.static ({ cls := "FirstColour$Reader", name := "isSign", desc := "(I)Z" } : Jvm.MethodName)) ∈ qm_G := qm_inW (i := 308) (by decide +kernel) rfl
set_option maxRecDepth 100000 in
theorem qw_309 : (Jvm.Cond.code ({ cls := "FirstColour$Reader", name := "isSign", desc := "(I)Z" } : Jvm.MethodName) prog_5_method_20_code (1 : Nat) (Option.some Jvm.ClassFile.FieldType.boolean)) ∈ qm_G := qm_inW (i := 309) (by decide +kernel) rfl
set_option maxRecDepth 100000 in
theorem qw_310 : (Jvm.Cond.methodLink "FirstColour$Reader" (43 : Nat) ({ cls := "FirstColour$Reader", name := "expect", desc := "(I)V" } : Jvm.MethodName)) ∈ qm_G := qm_inW (i := 310) (by decide +kernel) rfl
set_option maxRecDepth 100000 in
theorem qw_312 : (Jvm.Cond.instanceMethod ({ cls := "FirstColour$Reader", name := "expect", desc := "(I)V" } : Jvm.MethodName)) ∈ qm_G := qm_inW (i := 312) (by decide +kernel) rfl
set_option maxRecDepth 100000 in
theorem qw_313 : (Jvm.Cond.code ({ cls := "FirstColour$Reader", name := "expect", desc := "(I)V" } : Jvm.MethodName) prog_5_method_4_code (2 : Nat) (Option.none : Option Jvm.ClassFile.FieldType)) ∈ qm_G := qm_inW (i := 313) (by decide +kernel) rfl
set_option maxRecDepth 100000 in
theorem qw_314 : (Jvm.Cond.methodLink "FirstColour$Reader" (47 : Nat) ({ cls := "FirstColour$Reader", name := "readOr", desc := "(I)V" } : Jvm.MethodName)) ∈ qm_G := qm_inW (i := 314) (by decide +kernel) rfl
set_option maxRecDepth 100000 in
theorem qw_316 : (Jvm.Cond.instanceMethod ({ cls := "FirstColour$Reader", name := "readOr", desc := "(I)V" } : Jvm.MethodName)) ∈ qm_G := qm_inW (i := 316) (by decide +kernel) rfl
set_option maxRecDepth 100000 in
theorem qw_317 : (Jvm.Cond.code ({ cls := "FirstColour$Reader", name := "readOr", desc := "(I)V" } : Jvm.MethodName) prog_5_method_5_code (3 : Nat) (Option.none : Option Jvm.ClassFile.FieldType)) ∈ qm_G := qm_inW (i := 317) (by decide +kernel) rfl
set_option maxRecDepth 100000 in
theorem qw_318 : (Jvm.Cond.methodLink "FirstColour$Reader" (59 : Nat) ({ cls := "FirstColour$Reader", name := "readAnd", desc := "(I)V" } : Jvm.MethodName)) ∈ qm_G := qm_inW (i := 318) (by decide +kernel) rfl
set_option maxRecDepth 100000 in
theorem qw_320 : (Jvm.Cond.instanceMethod ({ cls := "FirstColour$Reader", name := "readAnd", desc := "(I)V" } : Jvm.MethodName)) ∈ qm_G := qm_inW (i := 320) (by decide +kernel) rfl
set_option maxRecDepth 100000 in
theorem qw_321 : (Jvm.Cond.code ({ cls := "FirstColour$Reader", name := "readAnd", desc := "(I)V" } : Jvm.MethodName) prog_5_method_6_code (3 : Nat) (Option.none : Option Jvm.ClassFile.FieldType)) ∈ qm_G := qm_inW (i := 321) (by decide +kernel) rfl
set_option maxRecDepth 100000 in
theorem qw_322 : (Jvm.Cond.methodLink "FirstColour$Reader" (65 : Nat) ({ cls := "FirstColour$Reader", name := "readNot", desc := "(I)V" } : Jvm.MethodName)) ∈ qm_G := qm_inW (i := 322) (by decide +kernel) rfl
set_option maxRecDepth 100000 in
theorem qw_324 : (Jvm.Cond.instanceMethod ({ cls := "FirstColour$Reader", name := "readNot", desc := "(I)V" } : Jvm.MethodName)) ∈ qm_G := qm_inW (i := 324) (by decide +kernel) rfl
set_option maxRecDepth 100000 in
theorem qw_325 : (Jvm.Cond.code ({ cls := "FirstColour$Reader", name := "readNot", desc := "(I)V" } : Jvm.MethodName) prog_5_method_7_code (3 : Nat) (Option.none : Option Jvm.ClassFile.FieldType)) ∈ qm_G := qm_inW (i := 325) (by decide +kernel) rfl
set_option maxRecDepth 100000 in
theorem qw_326 : (Jvm.Cond.methodLink "FirstColour$Reader" (68 : Nat) ({ cls := "FirstColour$Reader", name := "mayOpen", desc := "(I)Z" } : Jvm.MethodName)) ∈ qm_G := qm_inW (i := 326) (by decide +kernel) rfl
set_option maxRecDepth 100000 in
theorem qw_328 : (Jvm.Cond.instanceMethod ({ cls := "FirstColour$Reader", name := "mayOpen", desc := "(I)Z" } : Jvm.MethodName)) ∈ qm_G := qm_inW (i := 328) (by decide +kernel) rfl
set_option maxRecDepth 100000 in
theorem qw_329 : (Jvm.Cond.code ({ cls := "FirstColour$Reader", name := "mayOpen", desc := "(I)Z" } : Jvm.MethodName) prog_5_method_11_code (2 : Nat) (Option.some Jvm.ClassFile.FieldType.boolean)) ∈ qm_G := qm_inW (i := 329) (by decide +kernel) rfl
set_option maxRecDepth 100000 in
theorem qw_330 : (Jvm.Cond.methodLink "FirstColour$Reader" (62 : Nat) ({ cls := "FirstColour$Reader", name := "addStep", desc := "(I)V" } : Jvm.MethodName)) ∈ qm_G := qm_inW (i := 330) (by decide +kernel) rfl
set_option maxRecDepth 100000 in
theorem qw_332 : (Jvm.Cond.instanceMethod ({ cls := "FirstColour$Reader", name := "addStep", desc := "(I)V" } : Jvm.MethodName)) ∈ qm_G := qm_inW (i := 332) (by decide +kernel) rfl
set_option maxRecDepth 100000 in
theorem qw_333 : (Jvm.Cond.code ({ cls := "FirstColour$Reader", name := "addStep", desc := "(I)V" } : Jvm.MethodName) prog_5_method_12_code (2 : Nat) (Option.none : Option Jvm.ClassFile.FieldType)) ∈ qm_G := qm_inW (i := 333) (by decide +kernel) rfl
set_option maxRecDepth 100000 in
theorem qw_334 : (Jvm.Cond.methodLink "FirstColour$Reader" (72 : Nat) ({ cls := "FirstColour$Reader", name := "readSum", desc := "(I)V" } : Jvm.MethodName)) ∈ qm_G := qm_inW (i := 334) (by decide +kernel) rfl
set_option maxRecDepth 100000 in
theorem qw_336 : (Jvm.Cond.instanceMethod ({ cls := "FirstColour$Reader", name := "readSum", desc := "(I)V" } : Jvm.MethodName)) ∈ qm_G := qm_inW (i := 336) (by decide +kernel) rfl
set_option maxRecDepth 100000 in
theorem qw_337 : (Jvm.Cond.code ({ cls := "FirstColour$Reader", name := "readSum", desc := "(I)V" } : Jvm.MethodName) prog_5_method_8_code (4 : Nat) (Option.none : Option Jvm.ClassFile.FieldType)) ∈ qm_G := qm_inW (i := 337) (by decide +kernel) rfl
set_option maxRecDepth 100000 in
theorem qw_338 : (Jvm.Cond.methodLink "FirstColour$Reader" (75 : Nat) ({ cls := "FirstColour$Reader", name := "readTerm", desc := "(I)V" } : Jvm.MethodName)) ∈ qm_G := qm_inW (i := 338) (by decide +kernel) rfl
set_option maxRecDepth 100000 in
theorem qw_340 : (Jvm.Cond.instanceMethod ({ cls := "FirstColour$Reader", name := "readTerm", desc := "(I)V" } : Jvm.MethodName)) ∈ qm_G := qm_inW (i := 340) (by decide +kernel) rfl
set_option maxRecDepth 100000 in
theorem qw_341 : (Jvm.Cond.code ({ cls := "FirstColour$Reader", name := "readTerm", desc := "(I)V" } : Jvm.MethodName) prog_5_method_9_code (3 : Nat) (Option.none : Option Jvm.ClassFile.FieldType)) ∈ qm_G := qm_inW (i := 341) (by decide +kernel) rfl
set_option maxRecDepth 100000 in
theorem qw_342 : (Jvm.Cond.methodLink "FirstColour$Reader" (78 : Nat) ({ cls := "FirstColour$Reader", name := "readOne", desc := "(I)V" } : Jvm.MethodName)) ∈ qm_G := qm_inW (i := 342) (by decide +kernel) rfl
set_option maxRecDepth 100000 in
theorem qw_344 : (Jvm.Cond.instanceMethod ({ cls := "FirstColour$Reader", name := "readOne", desc := "(I)V" } : Jvm.MethodName)) ∈ qm_G := qm_inW (i := 344) (by decide +kernel) rfl
set_option maxRecDepth 100000 in
theorem qw_345 : (Jvm.Cond.code ({ cls := "FirstColour$Reader", name := "readOne", desc := "(I)V" } : Jvm.MethodName) prog_5_method_10_code (2 : Nat) (Option.none : Option Jvm.ClassFile.FieldType)) ∈ qm_G := qm_inW (i := 345) (by decide +kernel) rfl
set_option maxRecDepth 100000 in
theorem qw_346 : (Jvm.Cond.methodLink "FirstColour$Texts" (69 : Nat) ({ cls := "java/lang/System", name := "arraycopy", desc := "(Ljava/lang/Object;ILjava/lang/Object;II)V" } : Jvm.MethodName)) ∈ qm_G := qm_inW (i := 346) (by decide +kernel) rfl
set_option maxRecDepth 100000 in
theorem qw_347 : (Jvm.Cond.fieldLink "FirstColour" (75 : Nat) "FirstColour$Texts" "size" "I") ∈ qm_G := qm_inW (i := 347) (by decide +kernel) rfl
set_option maxRecDepth 100000 in
theorem qw_348 : (Jvm.Cond.fieldLink "FirstColour$Texts" (63 : Nat) "FirstColour$Texts" "size" "I") ∈ qm_G := qm_inW (i := 348) (by decide +kernel) rfl
set_option maxRecDepth 100000 in
theorem qw_349 : (Jvm.Cond.fieldLink "FirstColour$Texts" (55 : Nat) "FirstColour$Texts" "tapeSize" "I") ∈ qm_G := qm_inW (i := 349) (by decide +kernel) rfl
set_option maxRecDepth 100000 in
theorem qw_350 : (Jvm.Cond.fieldLink "FirstColour" (81 : Nat) "FirstColour$Texts" "tapeSize" "I") ∈ qm_G := qm_inW (i := 350) (by decide +kernel) rfl
set_option maxRecDepth 100000 in
theorem qw_351 : (Jvm.Cond.fieldLink "FirstColour$Texts" (9 : Nat) "FirstColour$Texts" "tape" "[I") ∈ qm_G := qm_inW (i := 351) (by decide +kernel) rfl
set_option maxRecDepth 100000 in
theorem qw_352 : (Jvm.Cond.fieldLink "FirstColour$Texts" (18 : Nat) "FirstColour$Texts" "reader" "LFirstColour$Reader;") ∈ qm_G := qm_inW (i := 352) (by decide +kernel) rfl
set_option maxRecDepth 100000 in
theorem qw_353 : (Jvm.Cond.fieldLink "FirstColour$Texts" (24 : Nat) "FirstColour$Texts" "codes" "[[I") ∈ qm_G := qm_inW (i := 353) (by decide +kernel) rfl
set_option maxRecDepth 100000 in
theorem qw_354 : (Jvm.Cond.fieldLink "FirstColour$Texts" (27 : Nat) "FirstColour$Texts" "starts" "[[I") ∈ qm_G := qm_inW (i := 354) (by decide +kernel) rfl
set_option maxRecDepth 100000 in
theorem qw_355 : (Jvm.Cond.fieldLink "FirstColour$Texts" (30 : Nat) "FirstColour$Texts" "names" "[I") ∈ qm_G := qm_inW (i := 355) (by decide +kernel) rfl
set_option maxRecDepth 100000 in
theorem qw_356 : (Jvm.Cond.fieldLink "FirstColour$Texts" (33 : Nat) "FirstColour$Texts" "stack" "[I") ∈ qm_G := qm_inW (i := 356) (by decide +kernel) rfl
set_option maxRecDepth 100000 in
theorem qw_382 : (Jvm.Cond.methodLink "FirstColour$Sheets" (23 : Nat) ({ cls := "java/util/Arrays", name := "fill", desc := "([II)V" } : Jvm.MethodName)) ∈ qm_G := qm_inW (i := 382) (by decide +kernel) rfl
set_option maxRecDepth 100000 in
theorem qw_383 : (Jvm.Cond.static ({ cls := "java/util/Arrays", name := "fill", desc := "([II)V" } : Jvm.MethodName)) ∈ qm_G := qm_inW (i := 383) (by decide +kernel) rfl
set_option maxRecDepth 100000 in
theorem qw_384 : (Jvm.Cond.code ({ cls := "java/util/Arrays", name := "fill", desc := "([II)V" } : Jvm.MethodName) prog_18_method_103_code (4 : Nat) (Option.none : Option Jvm.ClassFile.FieldType)) ∈ qm_G := qm_inW (i := 384) (by decide +kernel) rfl
set_option maxRecDepth 100000 in
theorem qw_385 : (Jvm.Cond.fieldLink "FirstColour$Sheets" (11 : Nat) "FirstColour$Sheets" "rows" "[[I") ∈ qm_G := qm_inW (i := 385) (by decide +kernel) rfl
set_option maxRecDepth 100000 in
theorem qw_386 : (Jvm.Cond.fieldLink "FirstColour" (252 : Nat) "FirstColour$Sheets" "rows" "[[I") ∈ qm_G := qm_inW (i := 386) (by decide +kernel) rfl
set_option maxRecDepth 100000 in
theorem qw_387 : (Jvm.Cond.fieldLink "FirstColour$Sheets" (16 : Nat) "FirstColour$Sheets" "sizes" "[I") ∈ qm_G := qm_inW (i := 387) (by decide +kernel) rfl
set_option maxRecDepth 100000 in
theorem qw_388 : (Jvm.Cond.fieldLink "FirstColour$Order" (19 : Nat) "FirstColour$Sheets" "sizes" "[I") ∈ qm_G := qm_inW (i := 388) (by decide +kernel) rfl
set_option maxRecDepth 100000 in
theorem qw_389 : (Jvm.Cond.fieldLink "FirstColour" (246 : Nat) "FirstColour$Sheets" "sizes" "[I") ∈ qm_G := qm_inW (i := 389) (by decide +kernel) rfl
set_option maxRecDepth 100000 in
theorem qw_390 : (Jvm.Cond.fieldLink "FirstColour$Sheets" (20 : Nat) "FirstColour$Sheets" "sorts" "[I") ∈ qm_G := qm_inW (i := 390) (by decide +kernel) rfl
set_option maxRecDepth 100000 in
theorem qw_391 : (Jvm.Cond.fieldLink "FirstColour" (288 : Nat) "FirstColour$Sheets" "sorts" "[I") ∈ qm_G := qm_inW (i := 391) (by decide +kernel) rfl
set_option maxRecDepth 100000 in
theorem qw_405 : (Jvm.Cond.fieldLink "FirstColour$Order" (9 : Nat) "FirstColour$Order" "lots" "[I") ∈ qm_G := qm_inW (i := 405) (by decide +kernel) rfl
set_option maxRecDepth 100000 in
theorem qw_406 : (Jvm.Cond.fieldLink "FirstColour" (214 : Nat) "FirstColour$Order" "lots" "[I") ∈ qm_G := qm_inW (i := 406) (by decide +kernel) rfl
set_option maxRecDepth 100000 in
theorem qw_407 : (Jvm.Cond.fieldLink "FirstColour$Town" (104 : Nat) "FirstColour$Order" "lots" "[I") ∈ qm_G := qm_inW (i := 407) (by decide +kernel) rfl
set_option maxRecDepth 100000 in
theorem qw_408 : (Jvm.Cond.fieldLink "FirstColour$Order" (15 : Nat) "FirstColour$Order" "size" "I") ∈ qm_G := qm_inW (i := 408) (by decide +kernel) rfl
set_option maxRecDepth 100000 in
theorem qw_409 : (Jvm.Cond.fieldLink "FirstColour" (196 : Nat) "FirstColour$Order" "size" "I") ∈ qm_G := qm_inW (i := 409) (by decide +kernel) rfl
set_option maxRecDepth 100000 in
theorem qw_410 : (Jvm.Cond.fieldLink "FirstColour$Town" (99 : Nat) "FirstColour$Order" "size" "I") ∈ qm_G := qm_inW (i := 410) (by decide +kernel) rfl
set_option maxRecDepth 100000 in
theorem qw_422 : (Jvm.Cond.fieldLink "FirstColour$Search" (9 : Nat) "FirstColour$Search" "forMost" "Z") ∈ qm_G := qm_inW (i := 422) (by decide +kernel) rfl
set_option maxRecDepth 100000 in
theorem qw_423 : (Jvm.Cond.fieldLink "FirstColour$Search" (18 : Nat) "FirstColour$Search" "best" "I") ∈ qm_G := qm_inW (i := 423) (by decide +kernel) rfl
set_option maxRecDepth 100000 in
theorem qw_424 : (Jvm.Cond.fieldLink "FirstColour" (180 : Nat) "FirstColour$Search" "best" "I") ∈ qm_G := qm_inW (i := 424) (by decide +kernel) rfl
set_option maxRecDepth 100000 in
theorem qw_425 : (Jvm.Cond.fieldLink "FirstColour$Search" (22 : Nat) "FirstColour$Search" "bestDigits" "I") ∈ qm_G := qm_inW (i := 425) (by decide +kernel) rfl
set_option maxRecDepth 100000 in
theorem qw_426 : (Jvm.Cond.fieldLink "FirstColour" (183 : Nat) "FirstColour$Search" "bestDigits" "I") ∈ qm_G := qm_inW (i := 426) (by decide +kernel) rfl
set_option maxRecDepth 100000 in
theorem qw_440 : (Jvm.Cond.fieldLink "FirstColour$Fits" (11 : Nat) "FirstColour$Fits" "ways" "[I") ∈ qm_G := qm_inW (i := 440) (by decide +kernel) rfl
set_option maxRecDepth 100000 in
theorem qw_441 : (Jvm.Cond.fieldLink "FirstColour$Fits" (15 : Nat) "FirstColour$Fits" "nexts" "[I") ∈ qm_G := qm_inW (i := 441) (by decide +kernel) rfl
set_option maxRecDepth 100000 in
theorem qw_442 : (Jvm.Cond.fieldLink "FirstColour$Fits" (18 : Nat) "FirstColour$Fits" "lotBits" "I") ∈ qm_G := qm_inW (i := 442) (by decide +kernel) rfl
set_option maxRecDepth 100000 in
theorem qw_450 : (Jvm.Cond.fieldLink "FirstColour" (10 : Nat) "FirstColour" "town" "LFirstColour$Town;") ∈ qm_G := qm_inW (i := 450) (by decide +kernel) rfl
set_option maxRecDepth 100000 in
theorem qw_451 : (Jvm.Cond.fieldLink "FirstColour" (16 : Nat) "FirstColour" "thought" "LFirstColour$Town;") ∈ qm_G := qm_inW (i := 451) (by decide +kernel) rfl
set_option maxRecDepth 100000 in
theorem qw_452 : (Jvm.Cond.fieldLink "FirstColour" (19 : Nat) "FirstColour" "kept" "LFirstColour$Town;") ∈ qm_G := qm_inW (i := 452) (by decide +kernel) rfl
set_option maxRecDepth 100000 in
theorem qw_453 : (Jvm.Cond.fieldLink "FirstColour" (22 : Nat) "FirstColour" "imageKept" "Z") ∈ qm_G := qm_inW (i := 453) (by decide +kernel) rfl
set_option maxRecDepth 100000 in
theorem qw_454 : (Jvm.Cond.fieldLink "FirstColour" (29 : Nat) "FirstColour" "texts" "LFirstColour$Texts;") ∈ qm_G := qm_inW (i := 454) (by decide +kernel) rfl
set_option maxRecDepth 100000 in
theorem qw_455 : (Jvm.Cond.fieldLink "FirstColour" (36 : Nat) "FirstColour" "sheets" "LFirstColour$Sheets;") ∈ qm_G := qm_inW (i := 455) (by decide +kernel) rfl
set_option maxRecDepth 100000 in
theorem qw_456 : (Jvm.Cond.fieldLink "FirstColour" (43 : Nat) "FirstColour" "order" "LFirstColour$Order;") ∈ qm_G := qm_inW (i := 456) (by decide +kernel) rfl
set_option maxRecDepth 100000 in
theorem qw_457 : (Jvm.Cond.fieldLink "FirstColour" (50 : Nat) "FirstColour" "search" "LFirstColour$Search;") ∈ qm_G := qm_inW (i := 457) (by decide +kernel) rfl
set_option maxRecDepth 100000 in
theorem qw_458 : (Jvm.Cond.fieldLink "FirstColour" (57 : Nat) "FirstColour" "fits" "LFirstColour$Fits;") ∈ qm_G := qm_inW (i := 458) (by decide +kernel) rfl
set_option maxRecDepth 100000 in
theorem qw_482 : (Jvm.Cond.methodLink "FirstColour" (68 : Nat) ({ cls := "FirstColour$Town", name := "howManyColours", desc := "()I" } : Jvm.MethodName)) ∈ qm_G := qm_inW (i := 482) (by decide +kernel) rfl
set_option maxRecDepth 100000 in
theorem qw_483 : (Jvm.Cond.instanceMethod ({ cls := "FirstColour$Town", name := "howManyColours", desc := "()I" } : Jvm.MethodName)) ∈ qm_G := qm_inW (i := 483) (by decide +kernel) rfl
set_option maxRecDepth 100000 in
theorem qw_484 : (Jvm.Cond.selects "FirstColour$Town" ({ cls := "FirstColour$Town", name := "howManyColours", desc := "()I" } : Jvm.MethodName) ({ cls := "FirstColour$Town", name := "howManyColours", desc := "()I" } : Jvm.MethodName)) ∈ qm_G := qm_inW (i := 484) (by decide +kernel) rfl
set_option maxRecDepth 100000 in
theorem qw_485 : (Jvm.Cond.code ({ cls := "FirstColour$Town", name := "howManyColours", desc := "()I" } : Jvm.MethodName) prog_9_method_11_code (1 : Nat) (Option.some Jvm.ClassFile.FieldType.int)) ∈ qm_G := qm_inW (i := 485) (by decide +kernel) rfl
set_option maxRecDepth 100000 in
theorem qw_486 : (Jvm.Cond.methodLink "FirstColour$Town" (53 : Nat) ({ cls := "FirstColour$Town", name := "colourBits", desc := "()I" } : Jvm.MethodName)) ∈ qm_G := qm_inW (i := 486) (by decide +kernel) rfl
set_option maxRecDepth 100000 in
theorem qw_487 : (Jvm.Cond.instanceMethod ({ cls := "FirstColour$Town", name := "colourBits", desc := "()I" } : Jvm.MethodName)) ∈ qm_G := qm_inW (i := 487) (by decide +kernel) rfl
set_option maxRecDepth 100000 in
theorem qw_488 : (Jvm.Cond.selects "FirstColour$Town" ({ cls := "FirstColour$Town", name := "colourBits", desc := "()I" } : Jvm.MethodName) ({ cls := "FirstColour$Town", name := "colourBits", desc := "()I" } : Jvm.MethodName)) ∈ qm_G := qm_inW (i := 488) (by decide +kernel) rfl
set_option maxRecDepth 100000 in
theorem qw_489 : (Jvm.Cond.code ({ cls := "FirstColour$Town", name := "colourBits", desc := "()I" } : Jvm.MethodName) prog_9_method_10_code (3 : Nat) (Option.some Jvm.ClassFile.FieldType.int)) ∈ qm_G := qm_inW (i := 489) (by decide +kernel) rfl
set_option maxRecDepth 100000 in
theorem qw_490 : (Jvm.Cond.methodLink "FirstColour$Town" (50 : Nat) ({ cls := "FirstColour$Town", name := "isBuilt", desc := "(I)Z" } : Jvm.MethodName)) ∈ qm_G := qm_inW (i := 490) (by decide +kernel) rfl
set_option maxRecDepth 100000 in
theorem qw_491 : (Jvm.Cond.instanceMethod ({ cls := "FirstColour$Town", name := "isBuilt", desc := "(I)Z" } : Jvm.MethodName)) ∈ qm_G := qm_inW (i := 491) (by decide +kernel) rfl
set_option maxRecDepth 100000 in
theorem qw_492 : (Jvm.Cond.selects "FirstColour$Town" ({ cls := "FirstColour$Town", name := "isBuilt", desc := "(I)Z" } : Jvm.MethodName) ({ cls := "FirstColour$Town", name := "isBuilt", desc := "(I)Z" } : Jvm.MethodName)) ∈ qm_G := qm_inW (i := 492) (by decide +kernel) rfl
set_option maxRecDepth 100000 in
theorem qw_493 : (Jvm.Cond.code ({ cls := "FirstColour$Town", name := "isBuilt", desc := "(I)Z" } : Jvm.MethodName) prog_9_method_5_code (2 : Nat) (Option.some Jvm.ClassFile.FieldType.boolean)) ∈ qm_G := qm_inW (i := 493) (by decide +kernel) rfl
set_option maxRecDepth 100000 in
theorem qw_494 : (Jvm.Cond.methodLink "FirstColour$Town" (46 : Nat) ({ cls := "FirstColour$Town", name := "hasLot", desc := "(I)Z" } : Jvm.MethodName)) ∈ qm_G := qm_inW (i := 494) (by decide +kernel) rfl
set_option maxRecDepth 100000 in
theorem qw_495 : (Jvm.Cond.instanceMethod ({ cls := "FirstColour$Town", name := "hasLot", desc := "(I)Z" } : Jvm.MethodName)) ∈ qm_G := qm_inW (i := 495) (by decide +kernel) rfl
set_option maxRecDepth 100000 in
theorem qw_496 : (Jvm.Cond.selects "FirstColour$Town" ({ cls := "FirstColour$Town", name := "hasLot", desc := "(I)Z" } : Jvm.MethodName) ({ cls := "FirstColour$Town", name := "hasLot", desc := "(I)Z" } : Jvm.MethodName)) ∈ qm_G := qm_inW (i := 496) (by decide +kernel) rfl
set_option maxRecDepth 100000 in
theorem qw_497 : (Jvm.Cond.code ({ cls := "FirstColour$Town", name := "hasLot", desc := "(I)Z" } : Jvm.MethodName) prog_9_method_3_code (2 : Nat) (Option.some Jvm.ClassFile.FieldType.boolean)) ∈ qm_G := qm_inW (i := 497) (by decide +kernel) rfl
set_option maxRecDepth 100000 in
theorem qw_498 : (Jvm.Cond.methodLink "FirstColour$Town" (57 : Nat) ({ cls := "java/lang/Integer", name := "bitCount", desc := "(I)I" } : Jvm.MethodName)) ∈ qm_G := qm_inW (i := 498) (by decide +kernel) rfl
set_option maxRecDepth 100000 in
theorem qw_499 : (Jvm.Cond.static ({ cls := "java/lang/Integer", name := "bitCount", desc := "(I)I" } : Jvm.MethodName)) ∈ qm_G := qm_inW (i := 499) (by decide +kernel) rfl
set_option maxRecDepth 100000 in
theorem qw_500 : (Jvm.Cond.code ({ cls := "java/lang/Integer", name := "bitCount", desc := "(I)I" } : Jvm.MethodName) prog_12_method_49_code (1 : Nat) (Option.some Jvm.ClassFile.FieldType.int)) ∈ qm_G := qm_inW (i := 500) (by decide +kernel) rfl
set_option maxRecDepth 100000 in
theorem qw_501 : (Jvm.Cond.constant "java/lang/Integer" (265 : Nat) (1431655765 : Int32)) ∈ qm_G := qm_inW (i := 501) (by decide +kernel) rfl
set_option maxRecDepth 100000 in
theorem qw_502 : (Jvm.Cond.constant "java/lang/Integer" (266 : Nat) (858993459 : Int32)) ∈ qm_G := qm_inW (i := 502) (by decide +kernel) rfl
set_option maxRecDepth 100000 in
theorem qw_503 : (Jvm.Cond.constant "java/lang/Integer" (267 : Nat) (252645135 : Int32)) ∈ qm_G := qm_inW (i := 503) (by decide +kernel) rfl
set_option maxRecDepth 100000 in
theorem qw_504 : (Jvm.Cond.methodLink "FirstColour" (72 : Nat) ({ cls := "FirstColour$Town", name := "pairsBeside", desc := "()I" } : Jvm.MethodName)) ∈ qm_G := qm_inW (i := 504) (by decide +kernel) rfl
set_option maxRecDepth 100000 in
theorem qw_505 : (Jvm.Cond.instanceMethod ({ cls := "FirstColour$Town", name := "pairsBeside", desc := "()I" } : Jvm.MethodName)) ∈ qm_G := qm_inW (i := 505) (by decide +kernel) rfl
set_option maxRecDepth 100000 in
theorem qw_506 : (Jvm.Cond.selects "FirstColour$Town" ({ cls := "FirstColour$Town", name := "pairsBeside", desc := "()I" } : Jvm.MethodName) ({ cls := "FirstColour$Town", name := "pairsBeside", desc := "()I" } : Jvm.MethodName)) ∈ qm_G := qm_inW (i := 506) (by decide +kernel) rfl
set_option maxRecDepth 100000 in
theorem qw_507 : (Jvm.Cond.code ({ cls := "FirstColour$Town", name := "pairsBeside", desc := "()I" } : Jvm.MethodName) prog_9_method_12_code (3 : Nat) (Option.some Jvm.ClassFile.FieldType.int)) ∈ qm_G := qm_inW (i := 507) (by decide +kernel) rfl
set_option maxRecDepth 100000 in
theorem qw_512 : (Jvm.Cond.methodLink "FirstColour" (84 : Nat) ({ cls := "FirstColour", name := "isByte", desc := "(I)Z" } : Jvm.MethodName)) ∈ qm_G := qm_inW (i := 512) (by decide +kernel) rfl
set_option maxRecDepth 100000 in
theorem qw_513 : (Jvm.Cond.static ({ cls := "FirstColour", name := "isByte", desc := "(I)Z" } : Jvm.MethodName)) ∈ qm_G := qm_inW (i := 513) (by decide +kernel) rfl
set_option maxRecDepth 100000 in
theorem qw_514 : (Jvm.Cond.code ({ cls := "FirstColour", name := "isByte", desc := "(I)Z" } : Jvm.MethodName) prog_1_method_4_code (1 : Nat) (Option.some Jvm.ClassFile.FieldType.boolean)) ∈ qm_G := qm_inW (i := 514) (by decide +kernel) rfl
set_option maxRecDepth 100000 in
theorem qw_515 : (Jvm.Cond.methodLink "FirstColour" (88 : Nat) ({ cls := "FirstColour$Texts", name := "addByte", desc := "(I)V" } : Jvm.MethodName)) ∈ qm_G := qm_inW (i := 515) (by decide +kernel) rfl
set_option maxRecDepth 100000 in
theorem qw_520 : (Jvm.Cond.methodLink "FirstColour" (92 : Nat) ({ cls := "FirstColour$Texts", name := "readTape", desc := "()I" } : Jvm.MethodName)) ∈ qm_G := qm_inW (i := 520) (by decide +kernel) rfl
set_option maxRecDepth 100000 in
theorem qw_529 : (Jvm.Cond.methodLink "FirstColour" (95 : Nat) ({ cls := "FirstColour$Town", name := "hasLot", desc := "(I)Z" } : Jvm.MethodName)) ∈ qm_G := qm_inW (i := 529) (by decide +kernel) rfl
set_option maxRecDepth 100000 in
theorem qw_530 : (Jvm.Cond.methodLink "FirstColour" (98 : Nat) ({ cls := "FirstColour", name := "isColour", desc := "(I)Z" } : Jvm.MethodName)) ∈ qm_G := qm_inW (i := 530) (by decide +kernel) rfl
set_option maxRecDepth 100000 in
theorem qw_531 : (Jvm.Cond.static ({ cls := "FirstColour", name := "isColour", desc := "(I)Z" } : Jvm.MethodName)) ∈ qm_G := qm_inW (i := 531) (by decide +kernel) rfl
set_option maxRecDepth 100000 in
theorem qw_532 : (Jvm.Cond.code ({ cls := "FirstColour", name := "isColour", desc := "(I)Z" } : Jvm.MethodName) prog_1_method_8_code (1 : Nat) (Option.some Jvm.ClassFile.FieldType.boolean)) ∈ qm_G := qm_inW (i := 532) (by decide +kernel) rfl
set_option maxRecDepth 100000 in
theorem qw_533 : (Jvm.Cond.methodLink "FirstColour" (101 : Nat) ({ cls := "FirstColour$Texts", name := "says", desc := "(ILFirstColour$Town;III)I" } : Jvm.MethodName)) ∈ qm_G := qm_inW (i := 533) (by decide +kernel) rfl
set_option maxRecDepth 100000 in
theorem qw_534 : (Jvm.Cond.instanceMethod ({ cls := "FirstColour$Texts", name := "says", desc := "(ILFirstColour$Town;III)I" } : Jvm.MethodName)) ∈ qm_G := qm_inW (i := 534) (by decide +kernel) rfl
set_option maxRecDepth 100000 in
theorem qw_535 : (Jvm.Cond.selects "FirstColour$Texts" ({ cls := "FirstColour$Texts", name := "says", desc := "(ILFirstColour$Town;III)I" } : Jvm.MethodName) ({ cls := "FirstColour$Texts", name := "says", desc := "(ILFirstColour$Town;III)I" } : Jvm.MethodName)) ∈ qm_G := qm_inW (i := 535) (by decide +kernel) rfl
set_option maxRecDepth 100000 in
theorem qw_536 : (Jvm.Cond.code ({ cls := "FirstColour$Texts", name := "says", desc := "(ILFirstColour$Town;III)I" } : Jvm.MethodName) prog_8_method_4_code (7 : Nat) (Option.some Jvm.ClassFile.FieldType.int)) ∈ qm_G := qm_inW (i := 536) (by decide +kernel) rfl
set_option maxRecDepth 100000 in
theorem qw_537 : (Jvm.Cond.methodLink "FirstColour$Texts" (82 : Nat) ({ cls := "FirstColour$Town", name := "hasLot", desc := "(I)Z" } : Jvm.MethodName)) ∈ qm_G := qm_inW (i := 537) (by decide +kernel) rfl
set_option maxRecDepth 100000 in
theorem qw_538 : (Jvm.Cond.methodLink "FirstColour$Texts" (89 : Nat) ({ cls := "java/lang/Integer", name := "bitCount", desc := "(I)I" } : Jvm.MethodName)) ∈ qm_G := qm_inW (i := 538) (by decide +kernel) rfl
set_option maxRecDepth 100000 in
theorem qw_539 : (Jvm.Cond.methodLink "FirstColour$Texts" (101 : Nat) ({ cls := "FirstColour$Texts", name := "valueOf", desc := "([III)I" } : Jvm.MethodName)) ∈ qm_G := qm_inW (i := 539) (by decide +kernel) rfl
set_option maxRecDepth 100000 in
theorem qw_541 : (Jvm.Cond.instanceMethod ({ cls := "FirstColour$Texts", name := "valueOf", desc := "([III)I" } : Jvm.MethodName)) ∈ qm_G := qm_inW (i := 541) (by decide +kernel) rfl
set_option maxRecDepth 100000 in
theorem qw_542 : (Jvm.Cond.code ({ cls := "FirstColour$Texts", name := "valueOf", desc := "([III)I" } : Jvm.MethodName) prog_8_method_5_code (7 : Nat) (Option.some Jvm.ClassFile.FieldType.int)) ∈ qm_G := qm_inW (i := 542) (by decide +kernel) rfl
set_option maxRecDepth 100000 in
theorem qw_543 : (Jvm.Cond.methodLink "FirstColour$Texts" (114 : Nat) ({ cls := "FirstColour$Reader", name := "isUnary", desc := "(I)Z" } : Jvm.MethodName)) ∈ qm_G := qm_inW (i := 543) (by decide +kernel) rfl
set_option maxRecDepth 100000 in
theorem qw_544 : (Jvm.Cond.static ({ cls := "FirstColour$Reader", name := "isUnary", desc := "(I)Z" } : Jvm.MethodName)) ∈ qm_G := qm_inW (i := 544) (by decide +kernel) rfl
set_option maxRecDepth 100000 in
theorem qw_545 : (Jvm.Cond.code ({ cls := "FirstColour$Reader", name := "isUnary", desc := "(I)Z" } : Jvm.MethodName) prog_5_method_21_code (1 : Nat) (Option.some Jvm.ClassFile.FieldType.boolean)) ∈ qm_G := qm_inW (i := 545) (by decide +kernel) rfl
set_option maxRecDepth 100000 in
theorem qw_546 : (Jvm.Cond.methodLink "FirstColour$Texts" (117 : Nat) ({ cls := "FirstColour$Texts", name := "unary", desc := "(II)I" } : Jvm.MethodName)) ∈ qm_G := qm_inW (i := 546) (by decide +kernel) rfl
set_option maxRecDepth 100000 in
theorem qw_547 : (Jvm.Cond.static ({ cls := "FirstColour$Texts", name := "unary", desc := "(II)I" } : Jvm.MethodName)) ∈ qm_G := qm_inW (i := 547) (by decide +kernel) rfl
set_option maxRecDepth 100000 in
theorem qw_548 : (Jvm.Cond.code ({ cls := "FirstColour$Texts", name := "unary", desc := "(II)I" } : Jvm.MethodName) prog_8_method_6_code (2 : Nat) (Option.some Jvm.ClassFile.FieldType.int)) ∈ qm_G := qm_inW (i := 548) (by decide +kernel) rfl
set_option maxRecDepth 100000 in
theorem qw_549 : (Jvm.Cond.methodLink "FirstColour$Texts" (120 : Nat) ({ cls := "FirstColour$Texts", name := "binary", desc := "(III)I" } : Jvm.MethodName)) ∈ qm_G := qm_inW (i := 549) (by decide +kernel) rfl
set_option maxRecDepth 100000 in
theorem qw_550 : (Jvm.Cond.static ({ cls := "FirstColour$Texts", name := "binary", desc := "(III)I" } : Jvm.MethodName)) ∈ qm_G := qm_inW (i := 550) (by decide +kernel) rfl
set_option maxRecDepth 100000 in
theorem qw_551 : (Jvm.Cond.code ({ cls := "FirstColour$Texts", name := "binary", desc := "(III)I" } : Jvm.MethodName) prog_8_method_7_code (3 : Nat) (Option.some Jvm.ClassFile.FieldType.int)) ∈ qm_G := qm_inW (i := 551) (by decide +kernel) rfl
set_option maxRecDepth 100000 in
theorem qw_552 : (Jvm.Cond.methodLink "FirstColour$Texts" (105 : Nat) ({ cls := "java/lang/Math", name := "min", desc := "(II)I" } : Jvm.MethodName)) ∈ qm_G := qm_inW (i := 552) (by decide +kernel) rfl
set_option maxRecDepth 100000 in
theorem qw_553 : (Jvm.Cond.static ({ cls := "java/lang/Math", name := "min", desc := "(II)I" } : Jvm.MethodName)) ∈ qm_G := qm_inW (i := 553) (by decide +kernel) rfl
set_option maxRecDepth 100000 in
theorem qw_554 : (Jvm.Cond.code ({ cls := "java/lang/Math", name := "min", desc := "(II)I" } : Jvm.MethodName) prog_13_method_69_code (2 : Nat) (Option.some Jvm.ClassFile.FieldType.int)) ∈ qm_G := qm_inW (i := 554) (by decide +kernel) rfl
set_option maxRecDepth 100000 in
theorem qw_555 : (Jvm.Cond.methodLink "FirstColour$Texts" (111 : Nat) ({ cls := "java/lang/Math", name := "max", desc := "(II)I" } : Jvm.MethodName)) ∈ qm_G := qm_inW (i := 555) (by decide +kernel) rfl
set_option maxRecDepth 100000 in
theorem qw_556 : (Jvm.Cond.static ({ cls := "java/lang/Math", name := "max", desc := "(II)I" } : Jvm.MethodName)) ∈ qm_G := qm_inW (i := 556) (by decide +kernel) rfl
set_option maxRecDepth 100000 in
theorem qw_557 : (Jvm.Cond.code ({ cls := "java/lang/Math", name := "max", desc := "(II)I" } : Jvm.MethodName) prog_13_method_65_code (2 : Nat) (Option.some Jvm.ClassFile.FieldType.int)) ∈ qm_G := qm_inW (i := 557) (by decide +kernel) rfl
set_option maxRecDepth 100000 in
theorem qw_559 : (Jvm.Cond.instanceMethod ({ cls := "FirstColour", name := "lot", desc := "(III)I" } : Jvm.MethodName)) ∈ qm_G := qm_inW (i := 559) (by decide +kernel) rfl
set_option maxRecDepth 100000 in
theorem qw_560 : (Jvm.Cond.selects "FirstColour" ({ cls := "FirstColour", name := "lot", desc := "(III)I" } : Jvm.MethodName) ({ cls := "FirstColour", name := "lot", desc := "(III)I" } : Jvm.MethodName)) ∈ qm_G := qm_inW (i := 560) (by decide +kernel) rfl
set_option maxRecDepth 100000 in
theorem qw_561 : (Jvm.Cond.code ({ cls := "FirstColour", name := "lot", desc := "(III)I" } : Jvm.MethodName) prog_1_method_9_code (4 : Nat) (Option.some Jvm.ClassFile.FieldType.int)) ∈ qm_G := qm_inW (i := 561) (by decide +kernel) rfl
set_option maxRecDepth 100000 in
theorem qw_562 : (Jvm.Cond.methodLink "FirstColour" (105 : Nat) ({ cls := "FirstColour$Town", name := "fitsLot", desc := "(III)Z" } : Jvm.MethodName)) ∈ qm_G := qm_inW (i := 562) (by decide +kernel) rfl
set_option maxRecDepth 100000 in
theorem qw_563 : (Jvm.Cond.instanceMethod ({ cls := "FirstColour$Town", name := "fitsLot", desc := "(III)Z" } : Jvm.MethodName)) ∈ qm_G := qm_inW (i := 563) (by decide +kernel) rfl
set_option maxRecDepth 100000 in
theorem qw_564 : (Jvm.Cond.selects "FirstColour$Town" ({ cls := "FirstColour$Town", name := "fitsLot", desc := "(III)Z" } : Jvm.MethodName) ({ cls := "FirstColour$Town", name := "fitsLot", desc := "(III)Z" } : Jvm.MethodName)) ∈ qm_G := qm_inW (i := 564) (by decide +kernel) rfl
set_option maxRecDepth 100000 in
theorem qw_565 : (Jvm.Cond.code ({ cls := "FirstColour$Town", name := "fitsLot", desc := "(III)Z" } : Jvm.MethodName) prog_9_method_13_code (4 : Nat) (Option.some Jvm.ClassFile.FieldType.boolean)) ∈ qm_G := qm_inW (i := 565) (by decide +kernel) rfl
set_option maxRecDepth 100000 in
theorem qw_566 : (Jvm.Cond.methodLink "FirstColour" (109 : Nat) ({ cls := "FirstColour$Town", name := "addLot", desc := "(III)I" } : Jvm.MethodName)) ∈ qm_G := qm_inW (i := 566) (by decide +kernel) rfl
set_option maxRecDepth 100000 in
theorem qw_567 : (Jvm.Cond.instanceMethod ({ cls := "FirstColour$Town", name := "addLot", desc := "(III)I" } : Jvm.MethodName)) ∈ qm_G := qm_inW (i := 567) (by decide +kernel) rfl
set_option maxRecDepth 100000 in
theorem qw_568 : (Jvm.Cond.selects "FirstColour$Town" ({ cls := "FirstColour$Town", name := "addLot", desc := "(III)I" } : Jvm.MethodName) ({ cls := "FirstColour$Town", name := "addLot", desc := "(III)I" } : Jvm.MethodName)) ∈ qm_G := qm_inW (i := 568) (by decide +kernel) rfl
set_option maxRecDepth 100000 in
theorem qw_569 : (Jvm.Cond.code ({ cls := "FirstColour$Town", name := "addLot", desc := "(III)I" } : Jvm.MethodName) prog_9_method_14_code (6 : Nat) (Option.some Jvm.ClassFile.FieldType.int)) ∈ qm_G := qm_inW (i := 569) (by decide +kernel) rfl
set_option maxRecDepth 100000 in
theorem qw_570 : (Jvm.Cond.methodLink "FirstColour$Town" (63 : Nat) ({ cls := "FirstColour$Town", name := "join", desc := "(II)V" } : Jvm.MethodName)) ∈ qm_G := qm_inW (i := 570) (by decide +kernel) rfl
set_option maxRecDepth 100000 in
theorem qw_571 : (Jvm.Cond.instanceMethod ({ cls := "FirstColour$Town", name := "join", desc := "(II)V" } : Jvm.MethodName)) ∈ qm_G := qm_inW (i := 571) (by decide +kernel) rfl
set_option maxRecDepth 100000 in
theorem qw_572 : (Jvm.Cond.selects "FirstColour$Town" ({ cls := "FirstColour$Town", name := "join", desc := "(II)V" } : Jvm.MethodName) ({ cls := "FirstColour$Town", name := "join", desc := "(II)V" } : Jvm.MethodName)) ∈ qm_G := qm_inW (i := 572) (by decide +kernel) rfl
set_option maxRecDepth 100000 in
theorem qw_573 : (Jvm.Cond.code ({ cls := "FirstColour$Town", name := "join", desc := "(II)V" } : Jvm.MethodName) prog_9_method_15_code (3 : Nat) (Option.none : Option Jvm.ClassFile.FieldType)) ∈ qm_G := qm_inW (i := 573) (by decide +kernel) rfl
set_option maxRecDepth 100000 in
theorem qw_578 : (Jvm.Cond.methodLink "FirstColour" (123 : Nat) ({ cls := "FirstColour$Town", name := "colourOf", desc := "(I)I" } : Jvm.MethodName)) ∈ qm_G := qm_inW (i := 578) (by decide +kernel) rfl
set_option maxRecDepth 100000 in
theorem qw_579 : (Jvm.Cond.instanceMethod ({ cls := "FirstColour$Town", name := "colourOf", desc := "(I)I" } : Jvm.MethodName)) ∈ qm_G := qm_inW (i := 579) (by decide +kernel) rfl
set_option maxRecDepth 100000 in
theorem qw_580 : (Jvm.Cond.selects "FirstColour$Town" ({ cls := "FirstColour$Town", name := "colourOf", desc := "(I)I" } : Jvm.MethodName) ({ cls := "FirstColour$Town", name := "colourOf", desc := "(I)I" } : Jvm.MethodName)) ∈ qm_G := qm_inW (i := 580) (by decide +kernel) rfl
set_option maxRecDepth 100000 in
theorem qw_581 : (Jvm.Cond.code ({ cls := "FirstColour$Town", name := "colourOf", desc := "(I)I" } : Jvm.MethodName) prog_9_method_7_code (2 : Nat) (Option.some Jvm.ClassFile.FieldType.int)) ∈ qm_G := qm_inW (i := 581) (by decide +kernel) rfl
set_option maxRecDepth 100000 in
theorem qw_582 : (Jvm.Cond.methodLink "FirstColour" (127 : Nat) ({ cls := "FirstColour$Town", name := "isBuilt", desc := "(I)Z" } : Jvm.MethodName)) ∈ qm_G := qm_inW (i := 582) (by decide +kernel) rfl
set_option maxRecDepth 100000 in
theorem qw_587 : (Jvm.Cond.methodLink "FirstColour" (133 : Nat) ({ cls := "FirstColour$Town", name := "buildHouse", desc := "(I)I" } : Jvm.MethodName)) ∈ qm_G := qm_inW (i := 587) (by decide +kernel) rfl
set_option maxRecDepth 100000 in
theorem qw_588 : (Jvm.Cond.instanceMethod ({ cls := "FirstColour$Town", name := "buildHouse", desc := "(I)I" } : Jvm.MethodName)) ∈ qm_G := qm_inW (i := 588) (by decide +kernel) rfl
set_option maxRecDepth 100000 in
theorem qw_589 : (Jvm.Cond.selects "FirstColour$Town" ({ cls := "FirstColour$Town", name := "buildHouse", desc := "(I)I" } : Jvm.MethodName) ({ cls := "FirstColour$Town", name := "buildHouse", desc := "(I)I" } : Jvm.MethodName)) ∈ qm_G := qm_inW (i := 589) (by decide +kernel) rfl
set_option maxRecDepth 100000 in
theorem qw_590 : (Jvm.Cond.code ({ cls := "FirstColour$Town", name := "buildHouse", desc := "(I)I" } : Jvm.MethodName) prog_9_method_23_code (3 : Nat) (Option.some Jvm.ClassFile.FieldType.int)) ∈ qm_G := qm_inW (i := 590) (by decide +kernel) rfl
set_option maxRecDepth 100000 in
theorem qw_591 : (Jvm.Cond.methodLink "FirstColour$Town" (93 : Nat) ({ cls := "FirstColour$Town", name := "wouldTake", desc := "(I)I" } : Jvm.MethodName)) ∈ qm_G := qm_inW (i := 591) (by decide +kernel) rfl
set_option maxRecDepth 100000 in
theorem qw_592 : (Jvm.Cond.instanceMethod ({ cls := "FirstColour$Town", name := "wouldTake", desc := "(I)I" } : Jvm.MethodName)) ∈ qm_G := qm_inW (i := 592) (by decide +kernel) rfl
set_option maxRecDepth 100000 in
theorem qw_593 : (Jvm.Cond.selects "FirstColour$Town" ({ cls := "FirstColour$Town", name := "wouldTake", desc := "(I)I" } : Jvm.MethodName) ({ cls := "FirstColour$Town", name := "wouldTake", desc := "(I)I" } : Jvm.MethodName)) ∈ qm_G := qm_inW (i := 593) (by decide +kernel) rfl
set_option maxRecDepth 100000 in
theorem qw_594 : (Jvm.Cond.code ({ cls := "FirstColour$Town", name := "wouldTake", desc := "(I)I" } : Jvm.MethodName) prog_9_method_17_code (2 : Nat) (Option.some Jvm.ClassFile.FieldType.int)) ∈ qm_G := qm_inW (i := 594) (by decide +kernel) rfl
set_option maxRecDepth 100000 in
theorem qw_595 : (Jvm.Cond.methodLink "FirstColour$Town" (67 : Nat) ({ cls := "FirstColour$Town", name := "colourAmong", desc := "(II[I)I" } : Jvm.MethodName)) ∈ qm_G := qm_inW (i := 595) (by decide +kernel) rfl
set_option maxRecDepth 100000 in
theorem qw_596 : (Jvm.Cond.instanceMethod ({ cls := "FirstColour$Town", name := "colourAmong", desc := "(II[I)I" } : Jvm.MethodName)) ∈ qm_G := qm_inW (i := 596) (by decide +kernel) rfl
set_option maxRecDepth 100000 in
theorem qw_597 : (Jvm.Cond.selects "FirstColour$Town" ({ cls := "FirstColour$Town", name := "colourAmong", desc := "(II[I)I" } : Jvm.MethodName) ({ cls := "FirstColour$Town", name := "colourAmong", desc := "(II[I)I" } : Jvm.MethodName)) ∈ qm_G := qm_inW (i := 597) (by decide +kernel) rfl
set_option maxRecDepth 100000 in
theorem qw_598 : (Jvm.Cond.code ({ cls := "FirstColour$Town", name := "colourAmong", desc := "(II[I)I" } : Jvm.MethodName) prog_9_method_18_code (7 : Nat) (Option.some Jvm.ClassFile.FieldType.int)) ∈ qm_G := qm_inW (i := 598) (by decide +kernel) rfl
set_option maxRecDepth 100000 in
theorem qw_599 : (Jvm.Cond.methodLink "FirstColour$Town" (71 : Nat) ({ cls := "FirstColour$Town", name := "colourByKind", desc := "(III)I" } : Jvm.MethodName)) ∈ qm_G := qm_inW (i := 599) (by decide +kernel) rfl
set_option maxRecDepth 100000 in
theorem qw_600 : (Jvm.Cond.static ({ cls := "FirstColour$Town", name := "colourByKind", desc := "(III)I" } : Jvm.MethodName)) ∈ qm_G := qm_inW (i := 600) (by decide +kernel) rfl
set_option maxRecDepth 100000 in
theorem qw_601 : (Jvm.Cond.code ({ cls := "FirstColour$Town", name := "colourByKind", desc := "(III)I" } : Jvm.MethodName) prog_9_method_19_code (3 : Nat) (Option.some Jvm.ClassFile.FieldType.int)) ∈ qm_G := qm_inW (i := 601) (by decide +kernel) rfl
set_option maxRecDepth 100000 in
theorem qw_602 : (Jvm.Cond.methodLink "FirstColour$Town" (75 : Nat) ({ cls := "FirstColour$Town", name := "least", desc := "(I)I" } : Jvm.MethodName)) ∈ qm_G := qm_inW (i := 602) (by decide +kernel) rfl
set_option maxRecDepth 100000 in
theorem qw_603 : (Jvm.Cond.static ({ cls := "FirstColour$Town", name := "least", desc := "(I)I" } : Jvm.MethodName)) ∈ qm_G := qm_inW (i := 603) (by decide +kernel) rfl
set_option maxRecDepth 100000 in
theorem qw_604 : (Jvm.Cond.code ({ cls := "FirstColour$Town", name := "least", desc := "(I)I" } : Jvm.MethodName) prog_9_method_20_code (1 : Nat) (Option.some Jvm.ClassFile.FieldType.int)) ∈ qm_G := qm_inW (i := 604) (by decide +kernel) rfl
set_option maxRecDepth 100000 in
theorem qw_605 : (Jvm.Cond.methodLink "FirstColour$Town" (81 : Nat) ({ cls := "java/lang/Integer", name := "numberOfTrailingZeros", desc := "(I)I" } : Jvm.MethodName)) ∈ qm_G := qm_inW (i := 605) (by decide +kernel) rfl
set_option maxRecDepth 100000 in
theorem qw_606 : (Jvm.Cond.static ({ cls := "java/lang/Integer", name := "numberOfTrailingZeros", desc := "(I)I" } : Jvm.MethodName)) ∈ qm_G := qm_inW (i := 606) (by decide +kernel) rfl
set_option maxRecDepth 100000 in
theorem qw_607 : (Jvm.Cond.code ({ cls := "java/lang/Integer", name := "numberOfTrailingZeros", desc := "(I)I" } : Jvm.MethodName) prog_12_method_48_code (2 : Nat) (Option.some Jvm.ClassFile.FieldType.int)) ∈ qm_G := qm_inW (i := 607) (by decide +kernel) rfl
set_option maxRecDepth 100000 in
theorem qw_608 : (Jvm.Cond.constant "java/lang/Integer" (264 : Nat) (65536 : Int32)) ∈ qm_G := qm_inW (i := 608) (by decide +kernel) rfl
set_option maxRecDepth 100000 in
theorem qw_609 : (Jvm.Cond.methodLink "FirstColour$Town" (84 : Nat) ({ cls := "java/lang/Math", name := "min", desc := "(II)I" } : Jvm.MethodName)) ∈ qm_G := qm_inW (i := 609) (by decide +kernel) rfl
set_option maxRecDepth 100000 in
theorem qw_610 : (Jvm.Cond.methodLink "FirstColour$Town" (78 : Nat) ({ cls := "FirstColour$Town", name := "aboveGreatest", desc := "(I)I" } : Jvm.MethodName)) ∈ qm_G := qm_inW (i := 610) (by decide +kernel) rfl
set_option maxRecDepth 100000 in
theorem qw_611 : (Jvm.Cond.static ({ cls := "FirstColour$Town", name := "aboveGreatest", desc := "(I)I" } : Jvm.MethodName)) ∈ qm_G := qm_inW (i := 611) (by decide +kernel) rfl
set_option maxRecDepth 100000 in
theorem qw_612 : (Jvm.Cond.code ({ cls := "FirstColour$Town", name := "aboveGreatest", desc := "(I)I" } : Jvm.MethodName) prog_9_method_21_code (1 : Nat) (Option.some Jvm.ClassFile.FieldType.int)) ∈ qm_G := qm_inW (i := 612) (by decide +kernel) rfl
set_option maxRecDepth 100000 in
theorem qw_613 : (Jvm.Cond.methodLink "FirstColour$Town" (90 : Nat) ({ cls := "java/lang/Integer", name := "numberOfLeadingZeros", desc := "(I)I" } : Jvm.MethodName)) ∈ qm_G := qm_inW (i := 613) (by decide +kernel) rfl
set_option maxRecDepth 100000 in
theorem qw_614 : (Jvm.Cond.static ({ cls := "java/lang/Integer", name := "numberOfLeadingZeros", desc := "(I)I" } : Jvm.MethodName)) ∈ qm_G := qm_inW (i := 614) (by decide +kernel) rfl
set_option maxRecDepth 100000 in
theorem qw_615 : (Jvm.Cond.code ({ cls := "java/lang/Integer", name := "numberOfLeadingZeros", desc := "(I)I" } : Jvm.MethodName) prog_12_method_47_code (2 : Nat) (Option.some Jvm.ClassFile.FieldType.int)) ∈ qm_G := qm_inW (i := 615) (by decide +kernel) rfl
set_option maxRecDepth 100000 in
theorem qw_616 : (Jvm.Cond.methodLink "FirstColour$Town" (96 : Nat) ({ cls := "FirstColour$Town", name := "putHouse", desc := "(II)V" } : Jvm.MethodName)) ∈ qm_G := qm_inW (i := 616) (by decide +kernel) rfl
set_option maxRecDepth 100000 in
theorem qw_617 : (Jvm.Cond.instanceMethod ({ cls := "FirstColour$Town", name := "putHouse", desc := "(II)V" } : Jvm.MethodName)) ∈ qm_G := qm_inW (i := 617) (by decide +kernel) rfl
set_option maxRecDepth 100000 in
theorem qw_618 : (Jvm.Cond.selects "FirstColour$Town" ({ cls := "FirstColour$Town", name := "putHouse", desc := "(II)V" } : Jvm.MethodName) ({ cls := "FirstColour$Town", name := "putHouse", desc := "(II)V" } : Jvm.MethodName)) ∈ qm_G := qm_inW (i := 618) (by decide +kernel) rfl
set_option maxRecDepth 100000 in
theorem qw_619 : (Jvm.Cond.code ({ cls := "FirstColour$Town", name := "putHouse", desc := "(II)V" } : Jvm.MethodName) prog_9_method_24_code (3 : Nat) (Option.none : Option Jvm.ClassFile.FieldType)) ∈ qm_G := qm_inW (i := 619) (by decide +kernel) rfl
set_option maxRecDepth 100000 in
theorem qw_624 : (Jvm.Cond.methodLink "FirstColour" (136 : Nat) ({ cls := "FirstColour$Town", name := "wouldTake", desc := "(I)I" } : Jvm.MethodName)) ∈ qm_G := qm_inW (i := 624) (by decide +kernel) rfl
set_option maxRecDepth 100000 in
theorem qw_629 : (Jvm.Cond.methodLink "FirstColour" (139 : Nat) ({ cls := "FirstColour$Town", name := "clearLot", desc := "(I)V" } : Jvm.MethodName)) ∈ qm_G := qm_inW (i := 629) (by decide +kernel) rfl
set_option maxRecDepth 100000 in
theorem qw_630 : (Jvm.Cond.instanceMethod ({ cls := "FirstColour$Town", name := "clearLot", desc := "(I)V" } : Jvm.MethodName)) ∈ qm_G := qm_inW (i := 630) (by decide +kernel) rfl
set_option maxRecDepth 100000 in
theorem qw_631 : (Jvm.Cond.selects "FirstColour$Town" ({ cls := "FirstColour$Town", name := "clearLot", desc := "(I)V" } : Jvm.MethodName) ({ cls := "FirstColour$Town", name := "clearLot", desc := "(I)V" } : Jvm.MethodName)) ∈ qm_G := qm_inW (i := 631) (by decide +kernel) rfl
set_option maxRecDepth 100000 in
theorem qw_632 : (Jvm.Cond.code ({ cls := "FirstColour$Town", name := "clearLot", desc := "(I)V" } : Jvm.MethodName) prog_9_method_25_code (2 : Nat) (Option.none : Option Jvm.ClassFile.FieldType)) ∈ qm_G := qm_inW (i := 632) (by decide +kernel) rfl
set_option maxRecDepth 100000 in
theorem qw_637 : (Jvm.Cond.methodLink "FirstColour" (145 : Nat) ({ cls := "FirstColour$Town", name := "putHouse", desc := "(II)V" } : Jvm.MethodName)) ∈ qm_G := qm_inW (i := 637) (by decide +kernel) rfl
set_option maxRecDepth 100000 in
theorem qw_642 : (Jvm.Cond.methodLink "FirstColour" (149 : Nat) ({ cls := "FirstColour", name := "refusalOfLane", desc := "(II)I" } : Jvm.MethodName)) ∈ qm_G := qm_inW (i := 642) (by decide +kernel) rfl
set_option maxRecDepth 100000 in
theorem qw_644 : (Jvm.Cond.instanceMethod ({ cls := "FirstColour", name := "refusalOfLane", desc := "(II)I" } : Jvm.MethodName)) ∈ qm_G := qm_inW (i := 644) (by decide +kernel) rfl
set_option maxRecDepth 100000 in
theorem qw_645 : (Jvm.Cond.code ({ cls := "FirstColour", name := "refusalOfLane", desc := "(II)I" } : Jvm.MethodName) prog_1_method_16_code (3 : Nat) (Option.some Jvm.ClassFile.FieldType.int)) ∈ qm_G := qm_inW (i := 645) (by decide +kernel) rfl
set_option maxRecDepth 100000 in
theorem qw_646 : (Jvm.Cond.methodLink "FirstColour" (159 : Nat) ({ cls := "FirstColour$Town", name := "hasTwoLots", desc := "(II)Z" } : Jvm.MethodName)) ∈ qm_G := qm_inW (i := 646) (by decide +kernel) rfl
set_option maxRecDepth 100000 in
theorem qw_647 : (Jvm.Cond.instanceMethod ({ cls := "FirstColour$Town", name := "hasTwoLots", desc := "(II)Z" } : Jvm.MethodName)) ∈ qm_G := qm_inW (i := 647) (by decide +kernel) rfl
set_option maxRecDepth 100000 in
theorem qw_648 : (Jvm.Cond.selects "FirstColour$Town" ({ cls := "FirstColour$Town", name := "hasTwoLots", desc := "(II)Z" } : Jvm.MethodName) ({ cls := "FirstColour$Town", name := "hasTwoLots", desc := "(II)Z" } : Jvm.MethodName)) ∈ qm_G := qm_inW (i := 648) (by decide +kernel) rfl
set_option maxRecDepth 100000 in
theorem qw_649 : (Jvm.Cond.code ({ cls := "FirstColour$Town", name := "hasTwoLots", desc := "(II)Z" } : Jvm.MethodName) prog_9_method_4_code (3 : Nat) (Option.some Jvm.ClassFile.FieldType.boolean)) ∈ qm_G := qm_inW (i := 649) (by decide +kernel) rfl
set_option maxRecDepth 100000 in
theorem qw_650 : (Jvm.Cond.methodLink "FirstColour" (163 : Nat) ({ cls := "FirstColour$Town", name := "areBeside", desc := "(II)Z" } : Jvm.MethodName)) ∈ qm_G := qm_inW (i := 650) (by decide +kernel) rfl
set_option maxRecDepth 100000 in
theorem qw_651 : (Jvm.Cond.instanceMethod ({ cls := "FirstColour$Town", name := "areBeside", desc := "(II)Z" } : Jvm.MethodName)) ∈ qm_G := qm_inW (i := 651) (by decide +kernel) rfl
set_option maxRecDepth 100000 in
theorem qw_652 : (Jvm.Cond.selects "FirstColour$Town" ({ cls := "FirstColour$Town", name := "areBeside", desc := "(II)Z" } : Jvm.MethodName) ({ cls := "FirstColour$Town", name := "areBeside", desc := "(II)Z" } : Jvm.MethodName)) ∈ qm_G := qm_inW (i := 652) (by decide +kernel) rfl
set_option maxRecDepth 100000 in
theorem qw_653 : (Jvm.Cond.code ({ cls := "FirstColour$Town", name := "areBeside", desc := "(II)Z" } : Jvm.MethodName) prog_9_method_6_code (3 : Nat) (Option.some Jvm.ClassFile.FieldType.boolean)) ∈ qm_G := qm_inW (i := 653) (by decide +kernel) rfl
set_option maxRecDepth 100000 in
theorem qw_654 : (Jvm.Cond.methodLink "FirstColour" (153 : Nat) ({ cls := "FirstColour$Lanes", name := "openLane", desc := "(LFirstColour$Town;LFirstColour$Texts;II)I" } : Jvm.MethodName)) ∈ qm_G := qm_inW (i := 654) (by decide +kernel) rfl
set_option maxRecDepth 100000 in
theorem qw_655 : (Jvm.Cond.static ({ cls := "FirstColour$Lanes", name := "openLane", desc := "(LFirstColour$Town;LFirstColour$Texts;II)I" } : Jvm.MethodName)) ∈ qm_G := qm_inW (i := 655) (by decide +kernel) rfl
set_option maxRecDepth 100000 in
theorem qw_656 : (Jvm.Cond.code ({ cls := "FirstColour$Lanes", name := "openLane", desc := "(LFirstColour$Town;LFirstColour$Texts;II)I" } : Jvm.MethodName) prog_3_method_2_code (6 : Nat) (Option.some Jvm.ClassFile.FieldType.int)) ∈ qm_G := qm_inW (i := 656) (by decide +kernel) rfl
set_option maxRecDepth 100000 in
theorem qw_657 : (Jvm.Cond.methodLink "FirstColour$Lanes" (9 : Nat) ({ cls := "FirstColour$Town", name := "join", desc := "(II)V" } : Jvm.MethodName)) ∈ qm_G := qm_inW (i := 657) (by decide +kernel) rfl
set_option maxRecDepth 100000 in
theorem qw_658 : (Jvm.Cond.methodLink "FirstColour$Lanes" (15 : Nat) ({ cls := "FirstColour$Lanes", name := "moverOf", desc := "(LFirstColour$Town;LFirstColour$Texts;II)I" } : Jvm.MethodName)) ∈ qm_G := qm_inW (i := 658) (by decide +kernel) rfl
set_option maxRecDepth 100000 in
theorem qw_659 : (Jvm.Cond.static ({ cls := "FirstColour$Lanes", name := "moverOf", desc := "(LFirstColour$Town;LFirstColour$Texts;II)I" } : Jvm.MethodName)) ∈ qm_G := qm_inW (i := 659) (by decide +kernel) rfl
set_option maxRecDepth 100000 in
theorem qw_660 : (Jvm.Cond.code ({ cls := "FirstColour$Lanes", name := "moverOf", desc := "(LFirstColour$Town;LFirstColour$Texts;II)I" } : Jvm.MethodName) prog_3_method_4_code (5 : Nat) (Option.some Jvm.ClassFile.FieldType.int)) ∈ qm_G := qm_inW (i := 660) (by decide +kernel) rfl
set_option maxRecDepth 100000 in
theorem qw_661 : (Jvm.Cond.methodLink "FirstColour$Lanes" (41 : Nat) ({ cls := "FirstColour$Town", name := "isBuilt", desc := "(I)Z" } : Jvm.MethodName)) ∈ qm_G := qm_inW (i := 661) (by decide +kernel) rfl
