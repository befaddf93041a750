set_option maxRecDepth 100000 in
theorem qw_662 : (Jvm.Cond.methodLink "FirstColour$Lanes" (48 : Nat) ({ cls := "FirstColour$Texts", name := "says", desc := "(ILFirstColour$Town;III)I" } : Jvm.MethodName)) ∈ qm_G := qm_inW (i := 662) (by decide +kernel) rfl
set_option maxRecDepth 100000 in
theorem qw_663 : (Jvm.Cond.methodLink "FirstColour$Lanes" (25 : Nat) ({ cls := "FirstColour$Town", name := "wouldTake", desc := "(I)I" } : Jvm.MethodName)) ∈ qm_G := qm_inW (i := 663) (by decide +kernel) rfl
set_option maxRecDepth 100000 in
theorem qw_664 : (Jvm.Cond.methodLink "FirstColour$Lanes" (29 : Nat) ({ cls := "FirstColour$Lanes", name := "moverBeside", desc := "(LFirstColour$Town;LFirstColour$Texts;I)I" } : Jvm.MethodName)) ∈ qm_G := qm_inW (i := 664) (by decide +kernel) rfl
set_option maxRecDepth 100000 in
theorem qw_665 : (Jvm.Cond.static ({ cls := "FirstColour$Lanes", name := "moverBeside", desc := "(LFirstColour$Town;LFirstColour$Texts;I)I" } : Jvm.MethodName)) ∈ qm_G := qm_inW (i := 665) (by decide +kernel) rfl
set_option maxRecDepth 100000 in
theorem qw_666 : (Jvm.Cond.code ({ cls := "FirstColour$Lanes", name := "moverBeside", desc := "(LFirstColour$Town;LFirstColour$Texts;I)I" } : Jvm.MethodName) prog_3_method_3_code (5 : Nat) (Option.some Jvm.ClassFile.FieldType.int)) ∈ qm_G := qm_inW (i := 666) (by decide +kernel) rfl
set_option maxRecDepth 100000 in
theorem qw_667 : (Jvm.Cond.methodLink "FirstColour$Lanes" (37 : Nat) ({ cls := "FirstColour$Town", name := "areBeside", desc := "(II)Z" } : Jvm.MethodName)) ∈ qm_G := qm_inW (i := 667) (by decide +kernel) rfl
set_option maxRecDepth 100000 in
theorem qw_672 : (Jvm.Cond.methodLink "FirstColour" (166 : Nat) ({ cls := "FirstColour$Town", name := "part", desc := "(II)V" } : Jvm.MethodName)) ∈ qm_G := qm_inW (i := 672) (by decide +kernel) rfl
set_option maxRecDepth 100000 in
theorem qw_673 : (Jvm.Cond.instanceMethod ({ cls := "FirstColour$Town", name := "part", desc := "(II)V" } : Jvm.MethodName)) ∈ qm_G := qm_inW (i := 673) (by decide +kernel) rfl
set_option maxRecDepth 100000 in
theorem qw_674 : (Jvm.Cond.selects "FirstColour$Town" ({ cls := "FirstColour$Town", name := "part", desc := "(II)V" } : Jvm.MethodName) ({ cls := "FirstColour$Town", name := "part", desc := "(II)V" } : Jvm.MethodName)) ∈ qm_G := qm_inW (i := 674) (by decide +kernel) rfl
set_option maxRecDepth 100000 in
theorem qw_675 : (Jvm.Cond.code ({ cls := "FirstColour$Town", name := "part", desc := "(II)V" } : Jvm.MethodName) prog_9_method_16_code (3 : Nat) (Option.none : Option Jvm.ClassFile.FieldType)) ∈ qm_G := qm_inW (i := 675) (by decide +kernel) rfl
set_option maxRecDepth 100000 in
theorem qw_680 : (Jvm.Cond.methodLink "FirstColour" (169 : Nat) ({ cls := "FirstColour", name := "movesInThought", desc := "(III)I" } : Jvm.MethodName)) ∈ qm_G := qm_inW (i := 680) (by decide +kernel) rfl
set_option maxRecDepth 100000 in
theorem qw_682 : (Jvm.Cond.instanceMethod ({ cls := "FirstColour", name := "movesInThought", desc := "(III)I" } : Jvm.MethodName)) ∈ qm_G := qm_inW (i := 682) (by decide +kernel) rfl
set_option maxRecDepth 100000 in
theorem qw_683 : (Jvm.Cond.code ({ cls := "FirstColour", name := "movesInThought", desc := "(III)I" } : Jvm.MethodName) prog_1_method_19_code (4 : Nat) (Option.some Jvm.ClassFile.FieldType.int)) ∈ qm_G := qm_inW (i := 683) (by decide +kernel) rfl
set_option maxRecDepth 100000 in
theorem qw_684 : (Jvm.Cond.methodLink "FirstColour" (172 : Nat) ({ cls := "FirstColour$Town", name := "becomes", desc := "(LFirstColour$Town;)V" } : Jvm.MethodName)) ∈ qm_G := qm_inW (i := 684) (by decide +kernel) rfl
set_option maxRecDepth 100000 in
theorem qw_685 : (Jvm.Cond.instanceMethod ({ cls := "FirstColour$Town", name := "becomes", desc := "(LFirstColour$Town;)V" } : Jvm.MethodName)) ∈ qm_G := qm_inW (i := 685) (by decide +kernel) rfl
set_option maxRecDepth 100000 in
theorem qw_686 : (Jvm.Cond.selects "FirstColour$Town" ({ cls := "FirstColour$Town", name := "becomes", desc := "(LFirstColour$Town;)V" } : Jvm.MethodName) ({ cls := "FirstColour$Town", name := "becomes", desc := "(LFirstColour$Town;)V" } : Jvm.MethodName)) ∈ qm_G := qm_inW (i := 686) (by decide +kernel) rfl
set_option maxRecDepth 100000 in
theorem qw_687 : (Jvm.Cond.code ({ cls := "FirstColour$Town", name := "becomes", desc := "(LFirstColour$Town;)V" } : Jvm.MethodName) prog_9_method_2_code (2 : Nat) (Option.none : Option Jvm.ClassFile.FieldType)) ∈ qm_G := qm_inW (i := 687) (by decide +kernel) rfl
set_option maxRecDepth 100000 in
theorem qw_688 : (Jvm.Cond.methodLink "FirstColour$Town" (40 : Nat) ({ cls := "java/lang/System", name := "arraycopy", desc := "(Ljava/lang/Object;ILjava/lang/Object;II)V" } : Jvm.MethodName)) ∈ qm_G := qm_inW (i := 688) (by decide +kernel) rfl
set_option maxRecDepth 100000 in
theorem qw_693 : (Jvm.Cond.methodLink "FirstColour" (176 : Nat) ({ cls := "FirstColour$Search", name := "run", desc := "(LFirstColour$Town;Z)V" } : Jvm.MethodName)) ∈ qm_G := qm_inW (i := 693) (by decide +kernel) rfl
set_option maxRecDepth 100000 in
theorem qw_694 : (Jvm.Cond.instanceMethod ({ cls := "FirstColour$Search", name := "run", desc := "(LFirstColour$Town;Z)V" } : Jvm.MethodName)) ∈ qm_G := qm_inW (i := 694) (by decide +kernel) rfl
set_option maxRecDepth 100000 in
theorem qw_695 : (Jvm.Cond.selects "FirstColour$Search" ({ cls := "FirstColour$Search", name := "run", desc := "(LFirstColour$Town;Z)V" } : Jvm.MethodName) ({ cls := "FirstColour$Search", name := "run", desc := "(LFirstColour$Town;Z)V" } : Jvm.MethodName)) ∈ qm_G := qm_inW (i := 695) (by decide +kernel) rfl
set_option maxRecDepth 100000 in
theorem qw_696 : (Jvm.Cond.code ({ cls := "FirstColour$Search", name := "run", desc := "(LFirstColour$Town;Z)V" } : Jvm.MethodName) prog_6_method_2_code (3 : Nat) (Option.none : Option Jvm.ClassFile.FieldType)) ∈ qm_G := qm_inW (i := 696) (by decide +kernel) rfl
set_option maxRecDepth 100000 in
theorem qw_697 : (Jvm.Cond.constant "FirstColour$Search" (17 : Nat) (2147483647 : Int32)) ∈ qm_G := qm_inW (i := 697) (by decide +kernel) rfl
set_option maxRecDepth 100000 in
theorem qw_698 : (Jvm.Cond.methodLink "FirstColour$Search" (25 : Nat) ({ cls := "FirstColour$Town", name := "unbuiltBits", desc := "()I" } : Jvm.MethodName)) ∈ qm_G := qm_inW (i := 698) (by decide +kernel) rfl
set_option maxRecDepth 100000 in
theorem qw_699 : (Jvm.Cond.instanceMethod ({ cls := "FirstColour$Town", name := "unbuiltBits", desc := "()I" } : Jvm.MethodName)) ∈ qm_G := qm_inW (i := 699) (by decide +kernel) rfl
set_option maxRecDepth 100000 in
theorem qw_700 : (Jvm.Cond.selects "FirstColour$Town" ({ cls := "FirstColour$Town", name := "unbuiltBits", desc := "()I" } : Jvm.MethodName) ({ cls := "FirstColour$Town", name := "unbuiltBits", desc := "()I" } : Jvm.MethodName)) ∈ qm_G := qm_inW (i := 700) (by decide +kernel) rfl
set_option maxRecDepth 100000 in
theorem qw_701 : (Jvm.Cond.code ({ cls := "FirstColour$Town", name := "unbuiltBits", desc := "()I" } : Jvm.MethodName) prog_9_method_8_code (1 : Nat) (Option.some Jvm.ClassFile.FieldType.int)) ∈ qm_G := qm_inW (i := 701) (by decide +kernel) rfl
set_option maxRecDepth 100000 in
theorem qw_702 : (Jvm.Cond.methodLink "FirstColour$Search" (31 : Nat) ({ cls := "FirstColour$Town", name := "colourBits", desc := "()I" } : Jvm.MethodName)) ∈ qm_G := qm_inW (i := 702) (by decide +kernel) rfl
set_option maxRecDepth 100000 in
theorem qw_703 : (Jvm.Cond.methodLink "FirstColour$Search" (34 : Nat) ({ cls := "FirstColour$Search", name := "tryAll", desc := "(LFirstColour$Search;LFirstColour$Town;IIII)V" } : Jvm.MethodName)) ∈ qm_G := qm_inW (i := 703) (by decide +kernel) rfl
set_option maxRecDepth 100000 in
theorem qw_704 : (Jvm.Cond.static ({ cls := "FirstColour$Search", name := "tryAll", desc := "(LFirstColour$Search;LFirstColour$Town;IIII)V" } : Jvm.MethodName)) ∈ qm_G := qm_inW (i := 704) (by decide +kernel) rfl
set_option maxRecDepth 100000 in
theorem qw_705 : (Jvm.Cond.code ({ cls := "FirstColour$Search", name := "tryAll", desc := "(LFirstColour$Search;LFirstColour$Town;IIII)V" } : Jvm.MethodName) prog_6_method_3_code (8 : Nat) (Option.none : Option Jvm.ClassFile.FieldType)) ∈ qm_G := qm_inW (i := 705) (by decide +kernel) rfl
set_option maxRecDepth 100000 in
theorem qw_706 : (Jvm.Cond.methodLink "FirstColour$Search" (38 : Nat) ({ cls := "FirstColour$Search", name := "canBeBetter", desc := "(II)Z" } : Jvm.MethodName)) ∈ qm_G := qm_inW (i := 706) (by decide +kernel) rfl
set_option maxRecDepth 100000 in
theorem qw_708 : (Jvm.Cond.instanceMethod ({ cls := "FirstColour$Search", name := "canBeBetter", desc := "(II)Z" } : Jvm.MethodName)) ∈ qm_G := qm_inW (i := 708) (by decide +kernel) rfl
set_option maxRecDepth 100000 in
theorem qw_709 : (Jvm.Cond.code ({ cls := "FirstColour$Search", name := "canBeBetter", desc := "(II)Z" } : Jvm.MethodName) prog_6_method_4_code (4 : Nat) (Option.some Jvm.ClassFile.FieldType.boolean)) ∈ qm_G := qm_inW (i := 709) (by decide +kernel) rfl
set_option maxRecDepth 100000 in
theorem qw_710 : (Jvm.Cond.methodLink "FirstColour$Search" (42 : Nat) ({ cls := "java/lang/Integer", name := "bitCount", desc := "(I)I" } : Jvm.MethodName)) ∈ qm_G := qm_inW (i := 710) (by decide +kernel) rfl
set_option maxRecDepth 100000 in
theorem qw_711 : (Jvm.Cond.methodLink "FirstColour$Search" (49 : Nat) ({ cls := "FirstColour$Town", name := "buildHouse", desc := "(I)I" } : Jvm.MethodName)) ∈ qm_G := qm_inW (i := 711) (by decide +kernel) rfl
set_option maxRecDepth 100000 in
theorem qw_712 : (Jvm.Cond.methodLink "FirstColour$Search" (52 : Nat) ({ cls := "FirstColour$Town", name := "clearLot", desc := "(I)V" } : Jvm.MethodName)) ∈ qm_G := qm_inW (i := 712) (by decide +kernel) rfl
set_option maxRecDepth 100000 in
theorem qw_717 : (Jvm.Cond.methodLink "FirstColour" (186 : Nat) ({ cls := "FirstColour$Fits", name := "fewestColours", desc := "(LFirstColour$Town;)I" } : Jvm.MethodName)) ∈ qm_G := qm_inW (i := 717) (by decide +kernel) rfl
set_option maxRecDepth 100000 in
theorem qw_718 : (Jvm.Cond.instanceMethod ({ cls := "FirstColour$Fits", name := "fewestColours", desc := "(LFirstColour$Town;)I" } : Jvm.MethodName)) ∈ qm_G := qm_inW (i := 718) (by decide +kernel) rfl
set_option maxRecDepth 100000 in
theorem qw_719 : (Jvm.Cond.selects "FirstColour$Fits" ({ cls := "FirstColour$Fits", name := "fewestColours", desc := "(LFirstColour$Town;)I" } : Jvm.MethodName) ({ cls := "FirstColour$Fits", name := "fewestColours", desc := "(LFirstColour$Town;)I" } : Jvm.MethodName)) ∈ qm_G := qm_inW (i := 719) (by decide +kernel) rfl
set_option maxRecDepth 100000 in
theorem qw_720 : (Jvm.Cond.code ({ cls := "FirstColour$Fits", name := "fewestColours", desc := "(LFirstColour$Town;)I" } : Jvm.MethodName) prog_2_method_4_code (5 : Nat) (Option.some Jvm.ClassFile.FieldType.int)) ∈ qm_G := qm_inW (i := 720) (by decide +kernel) rfl
set_option maxRecDepth 100000 in
theorem qw_721 : (Jvm.Cond.methodLink "FirstColour$Fits" (37 : Nat) ({ cls := "java/util/Arrays", name := "fill", desc := "([II)V" } : Jvm.MethodName)) ∈ qm_G := qm_inW (i := 721) (by decide +kernel) rfl
set_option maxRecDepth 100000 in
theorem qw_722 : (Jvm.Cond.methodLink "FirstColour$Fits" (43 : Nat) ({ cls := "FirstColour$Fits", name := "noneBeside", desc := "(LFirstColour$Town;I)Z" } : Jvm.MethodName)) ∈ qm_G := qm_inW (i := 722) (by decide +kernel) rfl
set_option maxRecDepth 100000 in
theorem qw_723 : (Jvm.Cond.static ({ cls := "FirstColour$Fits", name := "noneBeside", desc := "(LFirstColour$Town;I)Z" } : Jvm.MethodName)) ∈ qm_G := qm_inW (i := 723) (by decide +kernel) rfl
set_option maxRecDepth 100000 in
theorem qw_724 : (Jvm.Cond.code ({ cls := "FirstColour$Fits", name := "noneBeside", desc := "(LFirstColour$Town;I)Z" } : Jvm.MethodName) prog_2_method_5_code (3 : Nat) (Option.some Jvm.ClassFile.FieldType.boolean)) ∈ qm_G := qm_inW (i := 724) (by decide +kernel) rfl
set_option maxRecDepth 100000 in
theorem qw_725 : (Jvm.Cond.methodLink "FirstColour$Fits" (47 : Nat) ({ cls := "java/lang/Math", name := "min", desc := "(II)I" } : Jvm.MethodName)) ∈ qm_G := qm_inW (i := 725) (by decide +kernel) rfl
set_option maxRecDepth 100000 in
theorem qw_730 : (Jvm.Cond.methodLink "FirstColour" (190 : Nat) ({ cls := "FirstColour$Town", name := "unbuiltBits", desc := "()I" } : Jvm.MethodName)) ∈ qm_G := qm_inW (i := 730) (by decide +kernel) rfl
set_option maxRecDepth 100000 in
theorem qw_731 : (Jvm.Cond.methodLink "FirstColour" (193 : Nat) ({ cls := "FirstColour", name := "refusalOfOrder", desc := "(II)I" } : Jvm.MethodName)) ∈ qm_G := qm_inW (i := 731) (by decide +kernel) rfl
set_option maxRecDepth 100000 in
theorem qw_733 : (Jvm.Cond.instanceMethod ({ cls := "FirstColour", name := "refusalOfOrder", desc := "(II)I" } : Jvm.MethodName)) ∈ qm_G := qm_inW (i := 733) (by decide +kernel) rfl
set_option maxRecDepth 100000 in
theorem qw_734 : (Jvm.Cond.code ({ cls := "FirstColour", name := "refusalOfOrder", desc := "(II)I" } : Jvm.MethodName) prog_1_method_23_code (3 : Nat) (Option.some Jvm.ClassFile.FieldType.int)) ∈ qm_G := qm_inW (i := 734) (by decide +kernel) rfl
set_option maxRecDepth 100000 in
theorem qw_735 : (Jvm.Cond.methodLink "FirstColour" (201 : Nat) ({ cls := "FirstColour$Sheets", name := "isSheet", desc := "(I)Z" } : Jvm.MethodName)) ∈ qm_G := qm_inW (i := 735) (by decide +kernel) rfl
set_option maxRecDepth 100000 in
theorem qw_736 : (Jvm.Cond.static ({ cls := "FirstColour$Sheets", name := "isSheet", desc := "(I)Z" } : Jvm.MethodName)) ∈ qm_G := qm_inW (i := 736) (by decide +kernel) rfl
set_option maxRecDepth 100000 in
theorem qw_737 : (Jvm.Cond.code ({ cls := "FirstColour$Sheets", name := "isSheet", desc := "(I)Z" } : Jvm.MethodName) prog_7_method_2_code (1 : Nat) (Option.some Jvm.ClassFile.FieldType.boolean)) ∈ qm_G := qm_inW (i := 737) (by decide +kernel) rfl
set_option maxRecDepth 100000 in
theorem qw_738 : (Jvm.Cond.methodLink "FirstColour" (204 : Nat) ({ cls := "FirstColour$Sheets", name := "isMissing", desc := "(I)Z" } : Jvm.MethodName)) ∈ qm_G := qm_inW (i := 738) (by decide +kernel) rfl
set_option maxRecDepth 100000 in
theorem qw_739 : (Jvm.Cond.instanceMethod ({ cls := "FirstColour$Sheets", name := "isMissing", desc := "(I)Z" } : Jvm.MethodName)) ∈ qm_G := qm_inW (i := 739) (by decide +kernel) rfl
set_option maxRecDepth 100000 in
theorem qw_740 : (Jvm.Cond.selects "FirstColour$Sheets" ({ cls := "FirstColour$Sheets", name := "isMissing", desc := "(I)Z" } : Jvm.MethodName) ({ cls := "FirstColour$Sheets", name := "isMissing", desc := "(I)Z" } : Jvm.MethodName)) ∈ qm_G := qm_inW (i := 740) (by decide +kernel) rfl
set_option maxRecDepth 100000 in
theorem qw_741 : (Jvm.Cond.code ({ cls := "FirstColour$Sheets", name := "isMissing", desc := "(I)Z" } : Jvm.MethodName) prog_7_method_3_code (2 : Nat) (Option.some Jvm.ClassFile.FieldType.boolean)) ∈ qm_G := qm_inW (i := 741) (by decide +kernel) rfl
set_option maxRecDepth 100000 in
theorem qw_742 : (Jvm.Cond.methodLink "FirstColour" (207 : Nat) ({ cls := "FirstColour$Order", name := "becomesSheet", desc := "(LFirstColour$Sheets;II)Z" } : Jvm.MethodName)) ∈ qm_G := qm_inW (i := 742) (by decide +kernel) rfl
set_option maxRecDepth 100000 in
theorem qw_743 : (Jvm.Cond.instanceMethod ({ cls := "FirstColour$Order", name := "becomesSheet", desc := "(LFirstColour$Sheets;II)Z" } : Jvm.MethodName)) ∈ qm_G := qm_inW (i := 743) (by decide +kernel) rfl
set_option maxRecDepth 100000 in
theorem qw_744 : (Jvm.Cond.selects "FirstColour$Order" ({ cls := "FirstColour$Order", name := "becomesSheet", desc := "(LFirstColour$Sheets;II)Z" } : Jvm.MethodName) ({ cls := "FirstColour$Order", name := "becomesSheet", desc := "(LFirstColour$Sheets;II)Z" } : Jvm.MethodName)) ∈ qm_G := qm_inW (i := 744) (by decide +kernel) rfl
set_option maxRecDepth 100000 in
theorem qw_745 : (Jvm.Cond.code ({ cls := "FirstColour$Order", name := "becomesSheet", desc := "(LFirstColour$Sheets;II)Z" } : Jvm.MethodName) prog_4_method_2_code (7 : Nat) (Option.some Jvm.ClassFile.FieldType.boolean)) ∈ qm_G := qm_inW (i := 745) (by decide +kernel) rfl
set_option maxRecDepth 100000 in
theorem qw_746 : (Jvm.Cond.methodLink "FirstColour$Order" (24 : Nat) ({ cls := "java/lang/Integer", name := "bitCount", desc := "(I)I" } : Jvm.MethodName)) ∈ qm_G := qm_inW (i := 746) (by decide +kernel) rfl
set_option maxRecDepth 100000 in
theorem qw_747 : (Jvm.Cond.methodLink "FirstColour$Order" (30 : Nat) ({ cls := "FirstColour$Sheets", name := "cellAt", desc := "(II)I" } : Jvm.MethodName)) ∈ qm_G := qm_inW (i := 747) (by decide +kernel) rfl
set_option maxRecDepth 100000 in
theorem qw_748 : (Jvm.Cond.instanceMethod ({ cls := "FirstColour$Sheets", name := "cellAt", desc := "(II)I" } : Jvm.MethodName)) ∈ qm_G := qm_inW (i := 748) (by decide +kernel) rfl
set_option maxRecDepth 100000 in
theorem qw_749 : (Jvm.Cond.selects "FirstColour$Sheets" ({ cls := "FirstColour$Sheets", name := "cellAt", desc := "(II)I" } : Jvm.MethodName) ({ cls := "FirstColour$Sheets", name := "cellAt", desc := "(II)I" } : Jvm.MethodName)) ∈ qm_G := qm_inW (i := 749) (by decide +kernel) rfl
set_option maxRecDepth 100000 in
theorem qw_750 : (Jvm.Cond.code ({ cls := "FirstColour$Sheets", name := "cellAt", desc := "(II)I" } : Jvm.MethodName) prog_7_method_6_code (3 : Nat) (Option.some Jvm.ClassFile.FieldType.int)) ∈ qm_G := qm_inW (i := 750) (by decide +kernel) rfl
set_option maxRecDepth 100000 in
theorem qw_751 : (Jvm.Cond.methodLink "FirstColour$Sheets" (29 : Nat) ({ cls := "FirstColour$Sheets", name := "hasCell", desc := "(II)Z" } : Jvm.MethodName)) ∈ qm_G := qm_inW (i := 751) (by decide +kernel) rfl
set_option maxRecDepth 100000 in
theorem qw_752 : (Jvm.Cond.instanceMethod ({ cls := "FirstColour$Sheets", name := "hasCell", desc := "(II)Z" } : Jvm.MethodName)) ∈ qm_G := qm_inW (i := 752) (by decide +kernel) rfl
set_option maxRecDepth 100000 in
theorem qw_753 : (Jvm.Cond.selects "FirstColour$Sheets" ({ cls := "FirstColour$Sheets", name := "hasCell", desc := "(II)Z" } : Jvm.MethodName) ({ cls := "FirstColour$Sheets", name := "hasCell", desc := "(II)Z" } : Jvm.MethodName)) ∈ qm_G := qm_inW (i := 753) (by decide +kernel) rfl
set_option maxRecDepth 100000 in
theorem qw_754 : (Jvm.Cond.code ({ cls := "FirstColour$Sheets", name := "hasCell", desc := "(II)Z" } : Jvm.MethodName) prog_7_method_4_code (3 : Nat) (Option.some Jvm.ClassFile.FieldType.boolean)) ∈ qm_G := qm_inW (i := 754) (by decide +kernel) rfl
set_option maxRecDepth 100000 in
theorem qw_755 : (Jvm.Cond.methodLink "FirstColour$Order" (34 : Nat) ({ cls := "FirstColour$Order", name := "append", desc := "(I)V" } : Jvm.MethodName)) ∈ qm_G := qm_inW (i := 755) (by decide +kernel) rfl
set_option maxRecDepth 100000 in
theorem qw_757 : (Jvm.Cond.instanceMethod ({ cls := "FirstColour$Order", name := "append", desc := "(I)V" } : Jvm.MethodName)) ∈ qm_G := qm_inW (i := 757) (by decide +kernel) rfl
set_option maxRecDepth 100000 in
theorem qw_758 : (Jvm.Cond.code ({ cls := "FirstColour$Order", name := "append", desc := "(I)V" } : Jvm.MethodName) prog_4_method_3_code (2 : Nat) (Option.none : Option Jvm.ClassFile.FieldType)) ∈ qm_G := qm_inW (i := 758) (by decide +kernel) rfl
set_option maxRecDepth 100000 in
theorem qw_759 : (Jvm.Cond.methodLink "FirstColour" (197 : Nat) ({ cls := "FirstColour$Town", name := "buildFirst", desc := "(LFirstColour$Order;I)V" } : Jvm.MethodName)) ∈ qm_G := qm_inW (i := 759) (by decide +kernel) rfl
set_option maxRecDepth 100000 in
theorem qw_760 : (Jvm.Cond.instanceMethod ({ cls := "FirstColour$Town", name := "buildFirst", desc := "(LFirstColour$Order;I)V" } : Jvm.MethodName)) ∈ qm_G := qm_inW (i := 760) (by decide +kernel) rfl
set_option maxRecDepth 100000 in
theorem qw_761 : (Jvm.Cond.selects "FirstColour$Town" ({ cls := "FirstColour$Town", name := "buildFirst", desc := "(LFirstColour$Order;I)V" } : Jvm.MethodName) ({ cls := "FirstColour$Town", name := "buildFirst", desc := "(LFirstColour$Order;I)V" } : Jvm.MethodName)) ∈ qm_G := qm_inW (i := 761) (by decide +kernel) rfl
set_option maxRecDepth 100000 in
theorem qw_762 : (Jvm.Cond.code ({ cls := "FirstColour$Town", name := "buildFirst", desc := "(LFirstColour$Order;I)V" } : Jvm.MethodName) prog_9_method_26_code (4 : Nat) (Option.none : Option Jvm.ClassFile.FieldType)) ∈ qm_G := qm_inW (i := 762) (by decide +kernel) rfl
set_option maxRecDepth 100000 in
theorem qw_763 : (Jvm.Cond.methodLink "FirstColour$Town" (106 : Nat) ({ cls := "FirstColour$Town", name := "buildHouse", desc := "(I)I" } : Jvm.MethodName)) ∈ qm_G := qm_inW (i := 763) (by decide +kernel) rfl
set_option maxRecDepth 100000 in
theorem qw_772 : (Jvm.Cond.constant "FirstColour" (213 : Nat) (-2147483648 : Int32)) ∈ qm_G := qm_inW (i := 772) (by decide +kernel) rfl
set_option maxRecDepth 100000 in
theorem qw_777 : (Jvm.Cond.methodLink "FirstColour" (216 : Nat) ({ cls := "FirstColour$Order", name := "becomesRule", desc := "(LFirstColour$Town;I)V" } : Jvm.MethodName)) ∈ qm_G := qm_inW (i := 777) (by decide +kernel) rfl
set_option maxRecDepth 100000 in
theorem qw_778 : (Jvm.Cond.instanceMethod ({ cls := "FirstColour$Order", name := "becomesRule", desc := "(LFirstColour$Town;I)V" } : Jvm.MethodName)) ∈ qm_G := qm_inW (i := 778) (by decide +kernel) rfl
set_option maxRecDepth 100000 in
theorem qw_779 : (Jvm.Cond.selects "FirstColour$Order" ({ cls := "FirstColour$Order", name := "becomesRule", desc := "(LFirstColour$Town;I)V" } : Jvm.MethodName) ({ cls := "FirstColour$Order", name := "becomesRule", desc := "(LFirstColour$Town;I)V" } : Jvm.MethodName)) ∈ qm_G := qm_inW (i := 779) (by decide +kernel) rfl
set_option maxRecDepth 100000 in
theorem qw_780 : (Jvm.Cond.code ({ cls := "FirstColour$Order", name := "becomesRule", desc := "(LFirstColour$Town;I)V" } : Jvm.MethodName) prog_4_method_4_code (7 : Nat) (Option.none : Option Jvm.ClassFile.FieldType)) ∈ qm_G := qm_inW (i := 780) (by decide +kernel) rfl
set_option maxRecDepth 100000 in
theorem qw_781 : (Jvm.Cond.methodLink "FirstColour$Order" (38 : Nat) ({ cls := "FirstColour$Town", name := "unbuiltBits", desc := "()I" } : Jvm.MethodName)) ∈ qm_G := qm_inW (i := 781) (by decide +kernel) rfl
set_option maxRecDepth 100000 in
theorem qw_782 : (Jvm.Cond.methodLink "FirstColour$Order" (44 : Nat) ({ cls := "FirstColour$Order", name := "leastRanked", desc := "(LFirstColour$Town;II)I" } : Jvm.MethodName)) ∈ qm_G := qm_inW (i := 782) (by decide +kernel) rfl
set_option maxRecDepth 100000 in
theorem qw_783 : (Jvm.Cond.static ({ cls := "FirstColour$Order", name := "leastRanked", desc := "(LFirstColour$Town;II)I" } : Jvm.MethodName)) ∈ qm_G := qm_inW (i := 783) (by decide +kernel) rfl
set_option maxRecDepth 100000 in
theorem qw_784 : (Jvm.Cond.code ({ cls := "FirstColour$Order", name := "leastRanked", desc := "(LFirstColour$Town;II)I" } : Jvm.MethodName) prog_4_method_5_code (7 : Nat) (Option.some Jvm.ClassFile.FieldType.int)) ∈ qm_G := qm_inW (i := 784) (by decide +kernel) rfl
set_option maxRecDepth 100000 in
theorem qw_785 : (Jvm.Cond.methodLink "FirstColour$Order" (48 : Nat) ({ cls := "java/lang/Integer", name := "numberOfTrailingZeros", desc := "(I)I" } : Jvm.MethodName)) ∈ qm_G := qm_inW (i := 785) (by decide +kernel) rfl
set_option maxRecDepth 100000 in
theorem qw_786 : (Jvm.Cond.constant "FirstColour$Order" (51 : Nat) (2147483647 : Int32)) ∈ qm_G := qm_inW (i := 786) (by decide +kernel) rfl
set_option maxRecDepth 100000 in
theorem qw_787 : (Jvm.Cond.methodLink "FirstColour" (220 : Nat) ({ cls := "FirstColour$Order", name := "digits", desc := "()I" } : Jvm.MethodName)) ∈ qm_G := qm_inW (i := 787) (by decide +kernel) rfl
set_option maxRecDepth 100000 in
theorem qw_788 : (Jvm.Cond.instanceMethod ({ cls := "FirstColour$Order", name := "digits", desc := "()I" } : Jvm.MethodName)) ∈ qm_G := qm_inW (i := 788) (by decide +kernel) rfl
set_option maxRecDepth 100000 in
theorem qw_789 : (Jvm.Cond.selects "FirstColour$Order" ({ cls := "FirstColour$Order", name := "digits", desc := "()I" } : Jvm.MethodName) ({ cls := "FirstColour$Order", name := "digits", desc := "()I" } : Jvm.MethodName)) ∈ qm_G := qm_inW (i := 789) (by decide +kernel) rfl
set_option maxRecDepth 100000 in
theorem qw_790 : (Jvm.Cond.code ({ cls := "FirstColour$Order", name := "digits", desc := "()I" } : Jvm.MethodName) prog_4_method_8_code (3 : Nat) (Option.some Jvm.ClassFile.FieldType.int)) ∈ qm_G := qm_inW (i := 790) (by decide +kernel) rfl
set_option maxRecDepth 100000 in
theorem qw_795 : (Jvm.Cond.constant "FirstColour" (223 : Nat) (-100000 : Int32)) ∈ qm_G := qm_inW (i := 795) (by decide +kernel) rfl
set_option maxRecDepth 100000 in
theorem qw_796 : (Jvm.Cond.methodLink "FirstColour" (224 : Nat) ({ cls := "FirstColour", name := "worthInOrder", desc := "(I)I" } : Jvm.MethodName)) ∈ qm_G := qm_inW (i := 796) (by decide +kernel) rfl
set_option maxRecDepth 100000 in
theorem qw_798 : (Jvm.Cond.instanceMethod ({ cls := "FirstColour", name := "worthInOrder", desc := "(I)I" } : Jvm.MethodName)) ∈ qm_G := qm_inW (i := 798) (by decide +kernel) rfl
set_option maxRecDepth 100000 in
theorem qw_799 : (Jvm.Cond.code ({ cls := "FirstColour", name := "worthInOrder", desc := "(I)I" } : Jvm.MethodName) prog_1_method_28_code (3 : Nat) (Option.some Jvm.ClassFile.FieldType.int)) ∈ qm_G := qm_inW (i := 799) (by decide +kernel) rfl
set_option maxRecDepth 100000 in
theorem qw_800 : (Jvm.Cond.methodLink "FirstColour" (230 : Nat) ({ cls := "FirstColour$Order", name := "placeOf", desc := "(I)I" } : Jvm.MethodName)) ∈ qm_G := qm_inW (i := 800) (by decide +kernel) rfl
set_option maxRecDepth 100000 in
theorem qw_801 : (Jvm.Cond.instanceMethod ({ cls := "FirstColour$Order", name := "placeOf", desc := "(I)I" } : Jvm.MethodName)) ∈ qm_G := qm_inW (i := 801) (by decide +kernel) rfl
set_option maxRecDepth 100000 in
theorem qw_802 : (Jvm.Cond.selects "FirstColour$Order" ({ cls := "FirstColour$Order", name := "placeOf", desc := "(I)I" } : Jvm.MethodName) ({ cls := "FirstColour$Order", name := "placeOf", desc := "(I)I" } : Jvm.MethodName)) ∈ qm_G := qm_inW (i := 802) (by decide +kernel) rfl
set_option maxRecDepth 100000 in
theorem qw_803 : (Jvm.Cond.code ({ cls := "FirstColour$Order", name := "placeOf", desc := "(I)I" } : Jvm.MethodName) prog_4_method_6_code (3 : Nat) (Option.some Jvm.ClassFile.FieldType.int)) ∈ qm_G := qm_inW (i := 803) (by decide +kernel) rfl
set_option maxRecDepth 100000 in
theorem qw_804 : (Jvm.Cond.methodLink "FirstColour" (227 : Nat) ({ cls := "FirstColour$Order", name := "swap", desc := "(II)V" } : Jvm.MethodName)) ∈ qm_G := qm_inW (i := 804) (by decide +kernel) rfl
set_option maxRecDepth 100000 in
theorem qw_805 : (Jvm.Cond.instanceMethod ({ cls := "FirstColour$Order", name := "swap", desc := "(II)V" } : Jvm.MethodName)) ∈ qm_G := qm_inW (i := 805) (by decide +kernel) rfl
set_option maxRecDepth 100000 in
theorem qw_806 : (Jvm.Cond.selects "FirstColour$Order" ({ cls := "FirstColour$Order", name := "swap", desc := "(II)V" } : Jvm.MethodName) ({ cls := "FirstColour$Order", name := "swap", desc := "(II)V" } : Jvm.MethodName)) ∈ qm_G := qm_inW (i := 806) (by decide +kernel) rfl
set_option maxRecDepth 100000 in
theorem qw_807 : (Jvm.Cond.code ({ cls := "FirstColour$Order", name := "swap", desc := "(II)V" } : Jvm.MethodName) prog_4_method_7_code (5 : Nat) (Option.none : Option Jvm.ClassFile.FieldType)) ∈ qm_G := qm_inW (i := 807) (by decide +kernel) rfl
set_option maxRecDepth 100000 in
theorem qw_808 : (Jvm.Cond.methodLink "FirstColour$Order" (55 : Nat) ({ cls := "FirstColour$Order", name := "placeOf", desc := "(I)I" } : Jvm.MethodName)) ∈ qm_G := qm_inW (i := 808) (by decide +kernel) rfl
set_option maxRecDepth 100000 in
theorem qw_813 : (Jvm.Cond.methodLink "FirstColour" (233 : Nat) ({ cls := "FirstColour$Fits", name := "countOrders", desc := "(LFirstColour$Town;II[II)I" } : Jvm.MethodName)) ∈ qm_G := qm_inW (i := 813) (by decide +kernel) rfl
set_option maxRecDepth 100000 in
theorem qw_814 : (Jvm.Cond.instanceMethod ({ cls := "FirstColour$Fits", name := "countOrders", desc := "(LFirstColour$Town;II[II)I" } : Jvm.MethodName)) ∈ qm_G := qm_inW (i := 814) (by decide +kernel) rfl
set_option maxRecDepth 100000 in
theorem qw_815 : (Jvm.Cond.selects "FirstColour$Fits" ({ cls := "FirstColour$Fits", name := "countOrders", desc := "(LFirstColour$Town;II[II)I" } : Jvm.MethodName) ({ cls := "FirstColour$Fits", name := "countOrders", desc := "(LFirstColour$Town;II[II)I" } : Jvm.MethodName)) ∈ qm_G := qm_inW (i := 815) (by decide +kernel) rfl
set_option maxRecDepth 100000 in
theorem qw_816 : (Jvm.Cond.code ({ cls := "FirstColour$Fits", name := "countOrders", desc := "(LFirstColour$Town;II[II)I" } : Jvm.MethodName) prog_2_method_2_code (9 : Nat) (Option.some Jvm.ClassFile.FieldType.int)) ∈ qm_G := qm_inW (i := 816) (by decide +kernel) rfl
set_option maxRecDepth 100000 in
theorem qw_817 : (Jvm.Cond.methodLink "FirstColour$Fits" (27 : Nat) ({ cls := "FirstColour$Town", name := "colourAmong", desc := "(II[I)I" } : Jvm.MethodName)) ∈ qm_G := qm_inW (i := 817) (by decide +kernel) rfl
set_option maxRecDepth 100000 in
theorem qw_818 : (Jvm.Cond.methodLink "FirstColour" (237 : Nat) ({ cls := "FirstColour$Fits", name := "firstOrder", desc := "()I" } : Jvm.MethodName)) ∈ qm_G := qm_inW (i := 818) (by decide +kernel) rfl
set_option maxRecDepth 100000 in
theorem qw_819 : (Jvm.Cond.instanceMethod ({ cls := "FirstColour$Fits", name := "firstOrder", desc := "()I" } : Jvm.MethodName)) ∈ qm_G := qm_inW (i := 819) (by decide +kernel) rfl
set_option maxRecDepth 100000 in
theorem qw_820 : (Jvm.Cond.selects "FirstColour$Fits" ({ cls := "FirstColour$Fits", name := "firstOrder", desc := "()I" } : Jvm.MethodName) ({ cls := "FirstColour$Fits", name := "firstOrder", desc := "()I" } : Jvm.MethodName)) ∈ qm_G := qm_inW (i := 820) (by decide +kernel) rfl
set_option maxRecDepth 100000 in
theorem qw_821 : (Jvm.Cond.code ({ cls := "FirstColour$Fits", name := "firstOrder", desc := "()I" } : Jvm.MethodName) prog_2_method_3_code (5 : Nat) (Option.some Jvm.ClassFile.FieldType.int)) ∈ qm_G := qm_inW (i := 821) (by decide +kernel) rfl
set_option maxRecDepth 100000 in
theorem qw_822 : (Jvm.Cond.methodLink "FirstColour$Fits" (31 : Nat) ({ cls := "java/lang/Integer", name := "numberOfTrailingZeros", desc := "(I)I" } : Jvm.MethodName)) ∈ qm_G := qm_inW (i := 822) (by decide +kernel) rfl
set_option maxRecDepth 100000 in
theorem qw_831 : (Jvm.Cond.methodLink "FirstColour" (240 : Nat) ({ cls := "FirstColour", name := "refusalOfMap", desc := "(I)I" } : Jvm.MethodName)) ∈ qm_G := qm_inW (i := 831) (by decide +kernel) rfl
set_option maxRecDepth 100000 in
theorem qw_833 : (Jvm.Cond.instanceMethod ({ cls := "FirstColour", name := "refusalOfMap", desc := "(I)I" } : Jvm.MethodName)) ∈ qm_G := qm_inW (i := 833) (by decide +kernel) rfl
set_option maxRecDepth 100000 in
theorem qw_834 : (Jvm.Cond.code ({ cls := "FirstColour", name := "refusalOfMap", desc := "(I)I" } : Jvm.MethodName) prog_1_method_32_code (2 : Nat) (Option.some Jvm.ClassFile.FieldType.int)) ∈ qm_G := qm_inW (i := 834) (by decide +kernel) rfl
set_option maxRecDepth 100000 in
theorem qw_835 : (Jvm.Cond.methodLink "FirstColour" (243 : Nat) ({ cls := "FirstColour", name := "firstOtherwise", desc := "(II)I" } : Jvm.MethodName)) ∈ qm_G := qm_inW (i := 835) (by decide +kernel) rfl
set_option maxRecDepth 100000 in
theorem qw_837 : (Jvm.Cond.instanceMethod ({ cls := "FirstColour", name := "firstOtherwise", desc := "(II)I" } : Jvm.MethodName)) ∈ qm_G := qm_inW (i := 837) (by decide +kernel) rfl
set_option maxRecDepth 100000 in
theorem qw_838 : (Jvm.Cond.code ({ cls := "FirstColour", name := "firstOtherwise", desc := "(II)I" } : Jvm.MethodName) prog_1_method_33_code (4 : Nat) (Option.some Jvm.ClassFile.FieldType.int)) ∈ qm_G := qm_inW (i := 838) (by decide +kernel) rfl
set_option maxRecDepth 100000 in
theorem qw_839 : (Jvm.Cond.methodLink "FirstColour" (249 : Nat) ({ cls := "FirstColour$Sheets", name := "cellAt", desc := "(II)I" } : Jvm.MethodName)) ∈ qm_G := qm_inW (i := 839) (by decide +kernel) rfl
set_option maxRecDepth 100000 in
theorem qw_848 : (Jvm.Cond.methodLink "FirstColour" (256 : Nat) ({ cls := "FirstColour$Sheets", name := "makeRow", desc := "(III)V" } : Jvm.MethodName)) ∈ qm_G := qm_inW (i := 848) (by decide +kernel) rfl
set_option maxRecDepth 100000 in
theorem qw_849 : (Jvm.Cond.instanceMethod ({ cls := "FirstColour$Sheets", name := "makeRow", desc := "(III)V" } : Jvm.MethodName)) ∈ qm_G := qm_inW (i := 849) (by decide +kernel) rfl
set_option maxRecDepth 100000 in
theorem qw_850 : (Jvm.Cond.selects "FirstColour$Sheets" ({ cls := "FirstColour$Sheets", name := "makeRow", desc := "(III)V" } : Jvm.MethodName) ({ cls := "FirstColour$Sheets", name := "makeRow", desc := "(III)V" } : Jvm.MethodName)) ∈ qm_G := qm_inW (i := 850) (by decide +kernel) rfl
set_option maxRecDepth 100000 in
theorem qw_851 : (Jvm.Cond.code ({ cls := "FirstColour$Sheets", name := "makeRow", desc := "(III)V" } : Jvm.MethodName) prog_7_method_7_code (4 : Nat) (Option.none : Option Jvm.ClassFile.FieldType)) ∈ qm_G := qm_inW (i := 851) (by decide +kernel) rfl
set_option maxRecDepth 100000 in
theorem qw_852 : (Jvm.Cond.methodLink "FirstColour" (260 : Nat) ({ cls := "FirstColour$Sheets", name := "putCell", desc := "(III)V" } : Jvm.MethodName)) ∈ qm_G := qm_inW (i := 852) (by decide +kernel) rfl
set_option maxRecDepth 100000 in
theorem qw_853 : (Jvm.Cond.instanceMethod ({ cls := "FirstColour$Sheets", name := "putCell", desc := "(III)V" } : Jvm.MethodName)) ∈ qm_G := qm_inW (i := 853) (by decide +kernel) rfl
set_option maxRecDepth 100000 in
theorem qw_854 : (Jvm.Cond.selects "FirstColour$Sheets" ({ cls := "FirstColour$Sheets", name := "putCell", desc := "(III)V" } : Jvm.MethodName) ({ cls := "FirstColour$Sheets", name := "putCell", desc := "(III)V" } : Jvm.MethodName)) ∈ qm_G := qm_inW (i := 854) (by decide +kernel) rfl
set_option maxRecDepth 100000 in
theorem qw_855 : (Jvm.Cond.code ({ cls := "FirstColour$Sheets", name := "putCell", desc := "(III)V" } : Jvm.MethodName) prog_7_method_8_code (4 : Nat) (Option.none : Option Jvm.ClassFile.FieldType)) ∈ qm_G := qm_inW (i := 855) (by decide +kernel) rfl
set_option maxRecDepth 100000 in
theorem qw_864 : (Jvm.Cond.methodLink "FirstColour" (263 : Nat) ({ cls := "FirstColour", name := "isSeed", desc := "(I)Z" } : Jvm.MethodName)) ∈ qm_G := qm_inW (i := 864) (by decide +kernel) rfl
set_option maxRecDepth 100000 in
theorem qw_865 : (Jvm.Cond.static ({ cls := "FirstColour", name := "isSeed", desc := "(I)Z" } : Jvm.MethodName)) ∈ qm_G := qm_inW (i := 865) (by decide +kernel) rfl
set_option maxRecDepth 100000 in
theorem qw_866 : (Jvm.Cond.code ({ cls := "FirstColour", name := "isSeed", desc := "(I)Z" } : Jvm.MethodName) prog_1_method_38_code (1 : Nat) (Option.some Jvm.ClassFile.FieldType.boolean)) ∈ qm_G := qm_inW (i := 866) (by decide +kernel) rfl
set_option maxRecDepth 100000 in
theorem qw_867 : (Jvm.Cond.constant "FirstColour" (269 : Nat) (99999 : Int32)) ∈ qm_G := qm_inW (i := 867) (by decide +kernel) rfl
set_option maxRecDepth 100000 in
theorem qw_868 : (Jvm.Cond.methodLink "FirstColour" (266 : Nat) ({ cls := "FirstColour", name := "coloursDrawn", desc := "(I)I" } : Jvm.MethodName)) ∈ qm_G := qm_inW (i := 868) (by decide +kernel) rfl
set_option maxRecDepth 100000 in
theorem qw_870 : (Jvm.Cond.instanceMethod ({ cls := "FirstColour", name := "coloursDrawn", desc := "(I)I" } : Jvm.MethodName)) ∈ qm_G := qm_inW (i := 870) (by decide +kernel) rfl
set_option maxRecDepth 100000 in
theorem qw_871 : (Jvm.Cond.code ({ cls := "FirstColour", name := "coloursDrawn", desc := "(I)I" } : Jvm.MethodName) prog_1_method_39_code (5 : Nat) (Option.some Jvm.ClassFile.FieldType.int)) ∈ qm_G := qm_inW (i := 871) (by decide +kernel) rfl
set_option maxRecDepth 100000 in
theorem qw_872 : (Jvm.Cond.methodLink "FirstColour" (270 : Nat) ({ cls := "java/lang/Integer", name := "bitCount", desc := "(I)I" } : Jvm.MethodName)) ∈ qm_G := qm_inW (i := 872) (by decide +kernel) rfl
set_option maxRecDepth 100000 in
theorem qw_873 : (Jvm.Cond.constantLong "FirstColour" (273 : Nat) (48271 : Int64)) ∈ qm_G := qm_inW (i := 873) (by decide +kernel) rfl
set_option maxRecDepth 100000 in
theorem qw_874 : (Jvm.Cond.constantLong "FirstColour" (275 : Nat) (2147483647 : Int64)) ∈ qm_G := qm_inW (i := 874) (by decide +kernel) rfl
set_option maxRecDepth 100000 in
theorem qw_875 : (Jvm.Cond.methodLink "FirstColour" (277 : Nat) ({ cls := "FirstColour$Town", name := "unbuiltLot", desc := "(I)I" } : Jvm.MethodName)) ∈ qm_G := qm_inW (i := 875) (by decide +kernel) rfl
set_option maxRecDepth 100000 in
theorem qw_876 : (Jvm.Cond.instanceMethod ({ cls := "FirstColour$Town", name := "unbuiltLot", desc := "(I)I" } : Jvm.MethodName)) ∈ qm_G := qm_inW (i := 876) (by decide +kernel) rfl
set_option maxRecDepth 100000 in
theorem qw_877 : (Jvm.Cond.selects "FirstColour$Town" ({ cls := "FirstColour$Town", name := "unbuiltLot", desc := "(I)I" } : Jvm.MethodName) ({ cls := "FirstColour$Town", name := "unbuiltLot", desc := "(I)I" } : Jvm.MethodName)) ∈ qm_G := qm_inW (i := 877) (by decide +kernel) rfl
set_option maxRecDepth 100000 in
theorem qw_878 : (Jvm.Cond.code ({ cls := "FirstColour$Town", name := "unbuiltLot", desc := "(I)I" } : Jvm.MethodName) prog_9_method_9_code (4 : Nat) (Option.some Jvm.ClassFile.FieldType.int)) ∈ qm_G := qm_inW (i := 878) (by decide +kernel) rfl
set_option maxRecDepth 100000 in
theorem qw_883 : (Jvm.Cond.constantLong "FirstColour" (280 : Nat) (-4611686018427387904 : Int64)) ∈ qm_G := qm_inW (i := 883) (by decide +kernel) rfl
set_option maxRecDepth 100000 in
theorem qw_884 : (Jvm.Cond.methodLink "FirstColour" (282 : Nat) ({ cls := "FirstColour", name := "commonDivisor", desc := "(II)I" } : Jvm.MethodName)) ∈ qm_G := qm_inW (i := 884) (by decide +kernel) rfl
set_option maxRecDepth 100000 in
theorem qw_885 : (Jvm.Cond.static ({ cls := "FirstColour", name := "commonDivisor", desc := "(II)I" } : Jvm.MethodName)) ∈ qm_G := qm_inW (i := 885) (by decide +kernel) rfl
set_option maxRecDepth 100000 in
theorem qw_886 : (Jvm.Cond.code ({ cls := "FirstColour", name := "commonDivisor", desc := "(II)I" } : Jvm.MethodName) prog_1_method_41_code (3 : Nat) (Option.some Jvm.ClassFile.FieldType.int)) ∈ qm_G := qm_inW (i := 886) (by decide +kernel) rfl
set_option maxRecDepth 100000 in
theorem qw_903 : (Jvm.Cond.methodLink "FirstColour" (285 : Nat) ({ cls := "FirstColour$Sheets", name := "hasCell", desc := "(II)Z" } : Jvm.MethodName)) ∈ qm_G := qm_inW (i := 903) (by decide +kernel) rfl
set_option maxRecDepth 100000 in
theorem qw_908 : (Jvm.Cond.methodLink "FirstColour" (291 : Nat) ({ cls := "FirstColour$Sheets", name := "hasRange", desc := "(III)Z" } : Jvm.MethodName)) ∈ qm_G := qm_inW (i := 908) (by decide +kernel) rfl
set_option maxRecDepth 100000 in
theorem qw_909 : (Jvm.Cond.instanceMethod ({ cls := "FirstColour$Sheets", name := "hasRange", desc := "(III)Z" } : Jvm.MethodName)) ∈ qm_G := qm_inW (i := 909) (by decide +kernel) rfl
set_option maxRecDepth 100000 in
theorem qw_910 : (Jvm.Cond.selects "FirstColour$Sheets" ({ cls := "FirstColour$Sheets", name := "hasRange", desc := "(III)Z" } : Jvm.MethodName) ({ cls := "FirstColour$Sheets", name := "hasRange", desc := "(III)Z" } : Jvm.MethodName)) ∈ qm_G := qm_inW (i := 910) (by decide +kernel) rfl
set_option maxRecDepth 100000 in
theorem qw_911 : (Jvm.Cond.code ({ cls := "FirstColour$Sheets", name := "hasRange", desc := "(III)Z" } : Jvm.MethodName) prog_7_method_5_code (4 : Nat) (Option.some Jvm.ClassFile.FieldType.boolean)) ∈ qm_G := qm_inW (i := 911) (by decide +kernel) rfl
set_option maxRecDepth 100000 in
theorem qw_912 : (Jvm.Cond.methodLink "FirstColour" (294 : Nat) ({ cls := "java/lang/System", name := "arraycopy", desc := "(Ljava/lang/Object;ILjava/lang/Object;II)V" } : Jvm.MethodName)) ∈ qm_G := qm_inW (i := 912) (by decide +kernel) rfl
set_option maxRecDepth 100000 in
theorem qw_917 : (Jvm.Cond.methodLink "FirstColour" (300 : Nat) ({ cls := "FirstColour", name := "lot", desc := "(III)I" } : Jvm.MethodName)) ∈ qm_G := qm_inW (i := 917) (by decide +kernel) rfl
set_option maxRecDepth 100000 in
theorem qw_922 : (Jvm.Cond.methodLink "FirstColour" (303 : Nat) ({ cls := "FirstColour$Town", name := "isOfKind", desc := "(II)Z" } : Jvm.MethodName)) ∈ qm_G := qm_inW (i := 922) (by decide +kernel) rfl
set_option maxRecDepth 100000 in
theorem qw_923 : (Jvm.Cond.static ({ cls := "FirstColour$Town", name := "isOfKind", desc := "(II)Z" } : Jvm.MethodName)) ∈ qm_G := qm_inW (i := 923) (by decide +kernel) rfl
set_option maxRecDepth 100000 in
theorem qw_924 : (Jvm.Cond.code ({ cls := "FirstColour$Town", name := "isOfKind", desc := "(II)Z" } : Jvm.MethodName) prog_9_method_22_code (2 : Nat) (Option.some Jvm.ClassFile.FieldType.boolean)) ∈ qm_G := qm_inW (i := 924) (by decide +kernel) rfl
set_option maxRecDepth 100000 in
theorem qw_931 : (Jvm.Cond.methodLink "FirstColourModel" (74 : Nat) ({ cls := "FirstColourModel", name := "text", desc := "()I" } : Jvm.MethodName)) ∈ qm_G := qm_inW (i := 931) (by decide +kernel) rfl
set_option maxRecDepth 100000 in
theorem qw_932 : (Jvm.Cond.instanceMethod ({ cls := "FirstColourModel", name := "text", desc := "()I" } : Jvm.MethodName)) ∈ qm_G := qm_inW (i := 932) (by decide +kernel) rfl
set_option maxRecDepth 100000 in
theorem qw_933 : (Jvm.Cond.selects "FirstColourModel" ({ cls := "FirstColourModel", name := "text", desc := "()I" } : Jvm.MethodName) ({ cls := "FirstColourModel", name := "text", desc := "()I" } : Jvm.MethodName)) ∈ qm_G := qm_inW (i := 933) (by decide +kernel) rfl
set_option maxRecDepth 100000 in
theorem qw_934 : (Jvm.Cond.code ({ cls := "FirstColourModel", name := "text", desc := "()I" } : Jvm.MethodName) prog_11_method_27_code (3 : Nat) (Option.some Jvm.ClassFile.FieldType.int)) ∈ qm_G := qm_inW (i := 934) (by decide +kernel) rfl
set_option maxRecDepth 100000 in
theorem qw_935 : (Jvm.Cond.methodLink "FirstColourModel" (152 : Nat) ({ cls := "FirstColourModel", name := "next", desc := "()V" } : Jvm.MethodName)) ∈ qm_G := qm_inW (i := 935) (by decide +kernel) rfl
set_option maxRecDepth 100000 in
theorem qw_937 : (Jvm.Cond.instanceMethod ({ cls := "FirstColourModel", name := "next", desc := "()V" } : Jvm.MethodName)) ∈ qm_G := qm_inW (i := 937) (by decide +kernel) rfl
set_option maxRecDepth 100000 in
theorem qw_938 : (Jvm.Cond.code ({ cls := "FirstColourModel", name := "next", desc := "()V" } : Jvm.MethodName) prog_11_method_18_code (3 : Nat) (Option.none : Option Jvm.ClassFile.FieldType)) ∈ qm_G := qm_inW (i := 938) (by decide +kernel) rfl
set_option maxRecDepth 100000 in
theorem qw_939 : (Jvm.Cond.methodLink "FirstColourModel" (81 : Nat) ({ cls := "FirstColourModel", name := "in", desc := "(III)Z" } : Jvm.MethodName)) ∈ qm_G := qm_inW (i := 939) (by decide +kernel) rfl
set_option maxRecDepth 100000 in
theorem qw_940 : (Jvm.Cond.static ({ cls := "FirstColourModel", name := "in", desc := "(III)Z" } : Jvm.MethodName)) ∈ qm_G := qm_inW (i := 940) (by decide +kernel) rfl
set_option maxRecDepth 100000 in
theorem qw_941 : (Jvm.Cond.code ({ cls := "FirstColourModel", name := "in", desc := "(III)Z" } : Jvm.MethodName) prog_11_method_3_code (3 : Nat) (Option.some Jvm.ClassFile.FieldType.boolean)) ∈ qm_G := qm_inW (i := 941) (by decide +kernel) rfl
set_option maxRecDepth 100000 in
theorem qw_942 : (Jvm.Cond.methodLink "FirstColourModel" (126 : Nat) ({ cls := "FirstColourModel", name := "wordFrom", desc := "(II)I" } : Jvm.MethodName)) ∈ qm_G := qm_inW (i := 942) (by decide +kernel) rfl
set_option maxRecDepth 100000 in
theorem qw_944 : (Jvm.Cond.instanceMethod ({ cls := "FirstColourModel", name := "wordFrom", desc := "(II)I" } : Jvm.MethodName)) ∈ qm_G := qm_inW (i := 944) (by decide +kernel) rfl
set_option maxRecDepth 100000 in
theorem qw_945 : (Jvm.Cond.code ({ cls := "FirstColourModel", name := "wordFrom", desc := "(II)I" } : Jvm.MethodName) prog_11_method_17_code (6 : Nat) (Option.some Jvm.ClassFile.FieldType.int)) ∈ qm_G := qm_inW (i := 945) (by decide +kernel) rfl
set_option maxRecDepth 100000 in
theorem qw_946 : (Jvm.Cond.methodLink "FirstColourModel" (165 : Nat) ({ cls := "FirstColourModel", name := "eRead", desc := "()Z" } : Jvm.MethodName)) ∈ qm_G := qm_inW (i := 946) (by decide +kernel) rfl
set_option maxRecDepth 100000 in
theorem qw_948 : (Jvm.Cond.instanceMethod ({ cls := "FirstColourModel", name := "eRead", desc := "()Z" } : Jvm.MethodName)) ∈ qm_G := qm_inW (i := 948) (by decide +kernel) rfl
set_option maxRecDepth 100000 in
theorem qw_949 : (Jvm.Cond.code ({ cls := "FirstColourModel", name := "eRead", desc := "()Z" } : Jvm.MethodName) prog_11_method_26_code (4 : Nat) (Option.some Jvm.ClassFile.FieldType.boolean)) ∈ qm_G := qm_inW (i := 949) (by decide +kernel) rfl
set_option maxRecDepth 100000 in
theorem qw_950 : (Jvm.Cond.constant "FirstColourModel" (155 : Nat) (100000 : Int32)) ∈ qm_G := qm_inW (i := 950) (by decide +kernel) rfl
set_option maxRecDepth 100000 in
theorem qw_951 : (Jvm.Cond.methodLink "FirstColourModel" (142 : Nat) ({ cls := "FirstColourModel", name := "puts", desc := "(I)V" } : Jvm.MethodName)) ∈ qm_G := qm_inW (i := 951) (by decide +kernel) rfl
set_option maxRecDepth 100000 in
theorem qw_953 : (Jvm.Cond.instanceMethod ({ cls := "FirstColourModel", name := "puts", desc := "(I)V" } : Jvm.MethodName)) ∈ qm_G := qm_inW (i := 953) (by decide +kernel) rfl
set_option maxRecDepth 100000 in
theorem qw_954 : (Jvm.Cond.code ({ cls := "FirstColourModel", name := "puts", desc := "(I)V" } : Jvm.MethodName) prog_11_method_20_code (2 : Nat) (Option.none : Option Jvm.ClassFile.FieldType)) ∈ qm_G := qm_inW (i := 954) (by decide +kernel) rfl
set_option maxRecDepth 100000 in
theorem qw_955 : (Jvm.Cond.methodLink "FirstColourModel" (149 : Nat) ({ cls := "FirstColourModel", name := "unwinds", desc := "(I)V" } : Jvm.MethodName)) ∈ qm_G := qm_inW (i := 955) (by decide +kernel) rfl
set_option maxRecDepth 100000 in
theorem qw_957 : (Jvm.Cond.instanceMethod ({ cls := "FirstColourModel", name := "unwinds", desc := "(I)V" } : Jvm.MethodName)) ∈ qm_G := qm_inW (i := 957) (by decide +kernel) rfl
set_option maxRecDepth 100000 in
theorem qw_958 : (Jvm.Cond.code ({ cls := "FirstColourModel", name := "unwinds", desc := "(I)V" } : Jvm.MethodName) prog_11_method_21_code (3 : Nat) (Option.none : Option Jvm.ClassFile.FieldType)) ∈ qm_G := qm_inW (i := 958) (by decide +kernel) rfl
set_option maxRecDepth 100000 in
theorem qw_959 : (Jvm.Cond.methodLink "FirstColourModel" (136 : Nat) ({ cls := "FirstColourModel", name := "rank", desc := "(I)I" } : Jvm.MethodName)) ∈ qm_G := qm_inW (i := 959) (by decide +kernel) rfl
set_option maxRecDepth 100000 in
theorem qw_960 : (Jvm.Cond.static ({ cls := "FirstColourModel", name := "rank", desc := "(I)I" } : Jvm.MethodName)) ∈ qm_G := qm_inW (i := 960) (by decide +kernel) rfl
set_option maxRecDepth 100000 in
theorem qw_961 : (Jvm.Cond.code ({ cls := "FirstColourModel", name := "rank", desc := "(I)I" } : Jvm.MethodName) prog_11_method_19_code (1 : Nat) (Option.some Jvm.ClassFile.FieldType.int)) ∈ qm_G := qm_inW (i := 961) (by decide +kernel) rfl
set_option maxRecDepth 100000 in
theorem qw_962 : (Jvm.Cond.methodLink "FirstColourModel" (156 : Nat) ({ cls := "FirstColourModel", name := "opensOne", desc := "(I)Z" } : Jvm.MethodName)) ∈ qm_G := qm_inW (i := 962) (by decide +kernel) rfl
set_option maxRecDepth 100000 in
theorem qw_964 : (Jvm.Cond.instanceMethod ({ cls := "FirstColourModel", name := "opensOne", desc := "(I)Z" } : Jvm.MethodName)) ∈ qm_G := qm_inW (i := 964) (by decide +kernel) rfl
set_option maxRecDepth 100000 in
theorem qw_965 : (Jvm.Cond.code ({ cls := "FirstColourModel", name := "opensOne", desc := "(I)Z" } : Jvm.MethodName) prog_11_method_23_code (2 : Nat) (Option.some Jvm.ClassFile.FieldType.boolean)) ∈ qm_G := qm_inW (i := 965) (by decide +kernel) rfl
set_option maxRecDepth 100000 in
theorem qw_966 : (Jvm.Cond.methodLink "FirstColourModel" (146 : Nat) ({ cls := "FirstColourModel", name := "holds", desc := "(I)V" } : Jvm.MethodName)) ∈ qm_G := qm_inW (i := 966) (by decide +kernel) rfl
set_option maxRecDepth 100000 in
theorem qw_968 : (Jvm.Cond.instanceMethod ({ cls := "FirstColourModel", name := "holds", desc := "(I)V" } : Jvm.MethodName)) ∈ qm_G := qm_inW (i := 968) (by decide +kernel) rfl
set_option maxRecDepth 100000 in
theorem qw_969 : (Jvm.Cond.code ({ cls := "FirstColourModel", name := "holds", desc := "(I)V" } : Jvm.MethodName) prog_11_method_22_code (2 : Nat) (Option.none : Option Jvm.ClassFile.FieldType)) ∈ qm_G := qm_inW (i := 969) (by decide +kernel) rfl
set_option maxRecDepth 100000 in
theorem qw_970 : (Jvm.Cond.methodLink "FirstColourModel" (159 : Nat) ({ cls := "FirstColourModel", name := "signOf", desc := "()I" } : Jvm.MethodName)) ∈ qm_G := qm_inW (i := 970) (by decide +kernel) rfl
set_option maxRecDepth 100000 in
theorem qw_972 : (Jvm.Cond.instanceMethod ({ cls := "FirstColourModel", name := "signOf", desc := "()I" } : Jvm.MethodName)) ∈ qm_G := qm_inW (i := 972) (by decide +kernel) rfl
set_option maxRecDepth 100000 in
theorem qw_973 : (Jvm.Cond.code ({ cls := "FirstColourModel", name := "signOf", desc := "()I" } : Jvm.MethodName) prog_11_method_25_code (1 : Nat) (Option.some Jvm.ClassFile.FieldType.int)) ∈ qm_G := qm_inW (i := 973) (by decide +kernel) rfl
set_option maxRecDepth 100000 in
theorem qw_974 : (Jvm.Cond.methodLink "FirstColourModel" (162 : Nat) ({ cls := "FirstColourModel", name := "between", desc := "(I)Z" } : Jvm.MethodName)) ∈ qm_G := qm_inW (i := 974) (by decide +kernel) rfl
set_option maxRecDepth 100000 in
theorem qw_976 : (Jvm.Cond.instanceMethod ({ cls := "FirstColourModel", name := "between", desc := "(I)Z" } : Jvm.MethodName)) ∈ qm_G := qm_inW (i := 976) (by decide +kernel) rfl
set_option maxRecDepth 100000 in
theorem qw_977 : (Jvm.Cond.code ({ cls := "FirstColourModel", name := "between", desc := "(I)Z" } : Jvm.MethodName) prog_11_method_24_code (2 : Nat) (Option.some Jvm.ClassFile.FieldType.boolean)) ∈ qm_G := qm_inW (i := 977) (by decide +kernel) rfl
set_option maxRecDepth 100000 in
theorem qw_978 : (Jvm.Cond.fieldLink "FirstColourModel" (78 : Nat) "FirstColourModel" "lots" "I") ∈ qm_G := qm_inW (i := 978) (by decide +kernel) rfl
set_option maxRecDepth 100000 in
theorem qw_979 : (Jvm.Cond.fieldLink "FirstColourModel" (7 : Nat) "FirstColourModel" "kind" "[I") ∈ qm_G := qm_inW (i := 979) (by decide +kernel) rfl
set_option maxRecDepth 100000 in
theorem qw_980 : (Jvm.Cond.fieldLink "FirstColourModel" (13 : Nat) "FirstColourModel" "moreOf" "[I") ∈ qm_G := qm_inW (i := 980) (by decide +kernel) rfl
set_option maxRecDepth 100000 in
theorem qw_981 : (Jvm.Cond.fieldLink "FirstColourModel" (16 : Nat) "FirstColourModel" "beside" "[I") ∈ qm_G := qm_inW (i := 981) (by decide +kernel) rfl
set_option maxRecDepth 100000 in
theorem qw_982 : (Jvm.Cond.fieldLink "FirstColourModel" (19 : Nat) "FirstColourModel" "colour" "[I") ∈ qm_G := qm_inW (i := 982) (by decide +kernel) rfl
set_option maxRecDepth 100000 in
theorem qw_983 : (Jvm.Cond.fieldLink "FirstColourModel" (22 : Nat) "FirstColourModel" "builtAt" "[I") ∈ qm_G := qm_inW (i := 983) (by decide +kernel) rfl
set_option maxRecDepth 100000 in
theorem qw_984 : (Jvm.Cond.fieldLink "FirstColourModel" (199 : Nat) "FirstColourModel" "builds" "I") ∈ qm_G := qm_inW (i := 984) (by decide +kernel) rfl
set_option maxRecDepth 100000 in
theorem qw_985 : (Jvm.Cond.fieldLink "FirstColourModel" (25 : Nat) "FirstColourModel" "tape" "[I") ∈ qm_G := qm_inW (i := 985) (by decide +kernel) rfl
set_option maxRecDepth 100000 in
theorem qw_986 : (Jvm.Cond.fieldLink "FirstColourModel" (70 : Nat) "FirstColourModel" "taped" "I") ∈ qm_G := qm_inW (i := 986) (by decide +kernel) rfl
set_option maxRecDepth 100000 in
theorem qw_987 : (Jvm.Cond.fieldLink "FirstColourModel" (28 : Nat) "FirstColourModel" "codes" "[I") ∈ qm_G := qm_inW (i := 987) (by decide +kernel) rfl
set_option maxRecDepth 100000 in
theorem qw_988 : (Jvm.Cond.fieldLink "FirstColourModel" (31 : Nat) "FirstColourModel" "starts" "[I") ∈ qm_G := qm_inW (i := 988) (by decide +kernel) rfl
set_option maxRecDepth 100000 in
theorem qw_989 : (Jvm.Cond.fieldLink "FirstColourModel" (105 : Nat) "FirstColourModel" "texts" "I") ∈ qm_G := qm_inW (i := 989) (by decide +kernel) rfl
set_option maxRecDepth 100000 in
theorem qw_990 : (Jvm.Cond.fieldLink "FirstColourModel" (108 : Nat) "FirstColourModel" "rule" "I") ∈ qm_G := qm_inW (i := 990) (by decide +kernel) rfl
set_option maxRecDepth 100000 in
theorem qw_991 : (Jvm.Cond.fieldLink "FirstColourModel" (310 : Nat) "FirstColourModel" "hasImage" "Z") ∈ qm_G := qm_inW (i := 991) (by decide +kernel) rfl
set_option maxRecDepth 100000 in
theorem qw_992 : (Jvm.Cond.fieldLink "FirstColourModel" (314 : Nat) "FirstColourModel" "imageLots" "I") ∈ qm_G := qm_inW (i := 992) (by decide +kernel) rfl
set_option maxRecDepth 100000 in
theorem qw_993 : (Jvm.Cond.fieldLink "FirstColourModel" (317 : Nat) "FirstColourModel" "imageBuilds" "I") ∈ qm_G := qm_inW (i := 993) (by decide +kernel) rfl
set_option maxRecDepth 100000 in
theorem qw_994 : (Jvm.Cond.fieldLink "FirstColourModel" (320 : Nat) "FirstColourModel" "imageRule" "I") ∈ qm_G := qm_inW (i := 994) (by decide +kernel) rfl
set_option maxRecDepth 100000 in
theorem qw_995 : (Jvm.Cond.fieldLink "FirstColourModel" (34 : Nat) "FirstColourModel" "imageRows" "[I") ∈ qm_G := qm_inW (i := 995) (by decide +kernel) rfl
set_option maxRecDepth 100000 in
theorem qw_996 : (Jvm.Cond.fieldLink "FirstColourModel" (37 : Nat) "FirstColourModel" "sheetSort" "[I") ∈ qm_G := qm_inW (i := 996) (by decide +kernel) rfl
set_option maxRecDepth 100000 in
theorem qw_997 : (Jvm.Cond.fieldLink "FirstColourModel" (40 : Nat) "FirstColourModel" "sheetSize" "[I") ∈ qm_G := qm_inW (i := 997) (by decide +kernel) rfl
set_option maxRecDepth 100000 in
theorem qw_998 : (Jvm.Cond.fieldLink "FirstColourModel" (43 : Nat) "FirstColourModel" "cells" "[I") ∈ qm_G := qm_inW (i := 998) (by decide +kernel) rfl
set_option maxRecDepth 100000 in
theorem qw_999 : (Jvm.Cond.fieldLink "FirstColourModel" (46 : Nat) "FirstColourModel" "law" "[I") ∈ qm_G := qm_inW (i := 999) (by decide +kernel) rfl
set_option maxRecDepth 100000 in
theorem qw_1000 : (Jvm.Cond.fieldLink "FirstColourModel" (114 : Nat) "FirstColourModel" "at" "I") ∈ qm_G := qm_inW (i := 1000) (by decide +kernel) rfl
set_option maxRecDepth 100000 in
theorem qw_1001 : (Jvm.Cond.fieldLink "FirstColourModel" (117 : Nat) "FirstColourModel" "begun" "I") ∈ qm_G := qm_inW (i := 1001) (by decide +kernel) rfl
set_option maxRecDepth 100000 in
theorem qw_1002 : (Jvm.Cond.fieldLink "FirstColourModel" (120 : Nat) "FirstColourModel" "token" "I") ∈ qm_G := qm_inW (i := 1002) (by decide +kernel) rfl
set_option maxRecDepth 100000 in
theorem qw_1003 : (Jvm.Cond.fieldLink "FirstColourModel" (123 : Nat) "FirstColourModel" "value" "I") ∈ qm_G := qm_inW (i := 1003) (by decide +kernel) rfl
set_option maxRecDepth 100000 in
theorem qw_1004 : (Jvm.Cond.fieldLink "FirstColourModel" (49 : Nat) "FirstColourModel" "words" "[I") ∈ qm_G := qm_inW (i := 1004) (by decide +kernel) rfl
set_option maxRecDepth 100000 in
theorem qw_1005 : (Jvm.Cond.fieldLink "FirstColourModel" (52 : Nat) "FirstColourModel" "held" "[I") ∈ qm_G := qm_inW (i := 1005) (by decide +kernel) rfl
set_option maxRecDepth 100000 in
theorem qw_1006 : (Jvm.Cond.fieldLink "FirstColourModel" (133 : Nat) "FirstColourModel" "heldMany" "I") ∈ qm_G := qm_inW (i := 1006) (by decide +kernel) rfl
set_option maxRecDepth 100000 in
theorem qw_1007 : (Jvm.Cond.fieldLink "FirstColourModel" (139 : Nat) "FirstColourModel" "opens" "I") ∈ qm_G := qm_inW (i := 1007) (by decide +kernel) rfl
set_option maxRecDepth 100000 in
theorem qw_1008 : (Jvm.Cond.fieldLink "FirstColourModel" (130 : Nat) "FirstColourModel" "out" "I") ∈ qm_G := qm_inW (i := 1008) (by decide +kernel) rfl
set_option maxRecDepth 100000 in
theorem qw_1009 : (Jvm.Cond.fieldLink "FirstColourModel" (55 : Nat) "FirstColourModel" "stack" "[I") ∈ qm_G := qm_inW (i := 1009) (by decide +kernel) rfl
set_option maxRecDepth 100000 in
theorem qw_1010 : (Jvm.Cond.fieldLink "FirstColourModel" (58 : Nat) "FirstColourModel" "named" "[I") ∈ qm_G := qm_inW (i := 1010) (by decide +kernel) rfl
set_option maxRecDepth 100000 in
theorem qw_1011 : (Jvm.Cond.fieldLink "FirstColourModel" (61 : Nat) "FirstColourModel" "kept" "[I") ∈ qm_G := qm_inW (i := 1011) (by decide +kernel) rfl
set_option maxRecDepth 100000 in
theorem qw_1012 : (Jvm.Cond.fieldLink "FirstColourModel" (208 : Nat) "FirstColourModel" "keptBuilds" "I") ∈ qm_G := qm_inW (i := 1012) (by decide +kernel) rfl
set_option maxRecDepth 100000 in
theorem qw_1013 : (Jvm.Cond.fieldLink "FirstColourModel" (64 : Nat) "FirstColourModel" "row" "[I") ∈ qm_G := qm_inW (i := 1013) (by decide +kernel) rfl
set_option maxRecDepth 100000 in
theorem qw_1014 : (Jvm.Cond.fieldLink "FirstColourModel" (235 : Nat) "FirstColourModel" "rowMany" "I") ∈ qm_G := qm_inW (i := 1014) (by decide +kernel) rfl
set_option maxRecDepth 100000 in
theorem qw_1015 : (Jvm.Cond.fieldLink "FirstColourModel" (67 : Nat) "FirstColourModel" "painted" "[I") ∈ qm_G := qm_inW (i := 1015) (by decide +kernel) rfl
set_option maxRecDepth 100000 in
theorem qw_1016 : (Jvm.Cond.fieldLink "FirstColourModel" (278 : Nat) "FirstColourModel" "firstFit" "I") ∈ qm_G := qm_inW (i := 1016) (by decide +kernel) rfl
set_option maxRecDepth 100000 in
theorem qw_1100 : (Jvm.Cond.methodLink "FirstColourModel" (96 : Nat) ({ cls := "FirstColourModel", name := "builtSet", desc := "()I" } : Jvm.MethodName)) ∈ qm_G := qm_inW (i := 1100) (by decide +kernel) rfl
set_option maxRecDepth 100000 in
theorem qw_1102 : (Jvm.Cond.instanceMethod ({ cls := "FirstColourModel", name := "builtSet", desc := "()I" } : Jvm.MethodName)) ∈ qm_G := qm_inW (i := 1102) (by decide +kernel) rfl
set_option maxRecDepth 100000 in
theorem qw_1103 : (Jvm.Cond.code ({ cls := "FirstColourModel", name := "builtSet", desc := "()I" } : Jvm.MethodName) prog_11_method_10_code (3 : Nat) (Option.some Jvm.ClassFile.FieldType.int)) ∈ qm_G := qm_inW (i := 1103) (by decide +kernel) rfl
set_option maxRecDepth 100000 in
theorem qw_1104 : (Jvm.Cond.methodLink "FirstColourModel" (89 : Nat) ({ cls := "FirstColourModel", name := "isBuilt", desc := "(I)Z" } : Jvm.MethodName)) ∈ qm_G := qm_inW (i := 1104) (by decide +kernel) rfl
set_option maxRecDepth 100000 in
theorem qw_1106 : (Jvm.Cond.instanceMethod ({ cls := "FirstColourModel", name := "isBuilt", desc := "(I)Z" } : Jvm.MethodName)) ∈ qm_G := qm_inW (i := 1106) (by decide +kernel) rfl
set_option maxRecDepth 100000 in
theorem qw_1107 : (Jvm.Cond.code ({ cls := "FirstColourModel", name := "isBuilt", desc := "(I)Z" } : Jvm.MethodName) prog_11_method_8_code (2 : Nat) (Option.some Jvm.ClassFile.FieldType.boolean)) ∈ qm_G := qm_inW (i := 1107) (by decide +kernel) rfl
set_option maxRecDepth 100000 in
theorem qw_1108 : (Jvm.Cond.methodLink "FirstColourModel" (99 : Nat) ({ cls := "FirstColourModel", name := "howMany", desc := "()I" } : Jvm.MethodName)) ∈ qm_G := qm_inW (i := 1108) (by decide +kernel) rfl
set_option maxRecDepth 100000 in
theorem qw_1110 : (Jvm.Cond.instanceMethod ({ cls := "FirstColourModel", name := "howMany", desc := "()I" } : Jvm.MethodName)) ∈ qm_G := qm_inW (i := 1110) (by decide +kernel) rfl
set_option maxRecDepth 100000 in
theorem qw_1111 : (Jvm.Cond.code ({ cls := "FirstColourModel", name := "howMany", desc := "()I" } : Jvm.MethodName) prog_11_method_12_code (3 : Nat) (Option.some Jvm.ClassFile.FieldType.int)) ∈ qm_G := qm_inW (i := 1111) (by decide +kernel) rfl
set_option maxRecDepth 100000 in
theorem qw_1112 : (Jvm.Cond.methodLink "FirstColourModel" (92 : Nat) ({ cls := "FirstColourModel", name := "ones", desc := "(I)I" } : Jvm.MethodName)) ∈ qm_G := qm_inW (i := 1112) (by decide +kernel) rfl
set_option maxRecDepth 100000 in
theorem qw_1113 : (Jvm.Cond.static ({ cls := "FirstColourModel", name := "ones", desc := "(I)I" } : Jvm.MethodName)) ∈ qm_G := qm_inW (i := 1113) (by decide +kernel) rfl
set_option maxRecDepth 100000 in
theorem qw_1114 : (Jvm.Cond.code ({ cls := "FirstColourModel", name := "ones", desc := "(I)I" } : Jvm.MethodName) prog_11_method_9_code (3 : Nat) (Option.some Jvm.ClassFile.FieldType.int)) ∈ qm_G := qm_inW (i := 1114) (by decide +kernel) rfl
set_option maxRecDepth 100000 in
theorem qw_1115 : (Jvm.Cond.methodLink "FirstColourModel" (102 : Nat) ({ cls := "FirstColourModel", name := "pairs", desc := "()I" } : Jvm.MethodName)) ∈ qm_G := qm_inW (i := 1115) (by decide +kernel) rfl
set_option maxRecDepth 100000 in
theorem qw_1117 : (Jvm.Cond.instanceMethod ({ cls := "FirstColourModel", name := "pairs", desc := "()I" } : Jvm.MethodName)) ∈ qm_G := qm_inW (i := 1117) (by decide +kernel) rfl
set_option maxRecDepth 100000 in
theorem qw_1118 : (Jvm.Cond.code ({ cls := "FirstColourModel", name := "pairs", desc := "()I" } : Jvm.MethodName) prog_11_method_13_code (3 : Nat) (Option.some Jvm.ClassFile.FieldType.int)) ∈ qm_G := qm_inW (i := 1118) (by decide +kernel) rfl
set_option maxRecDepth 100000 in
theorem qw_1123 : (Jvm.Cond.methodLink "FirstColourModel" (111 : Nat) ({ cls := "FirstColourModel", name := "isByte", desc := "(I)Z" } : Jvm.MethodName)) ∈ qm_G := qm_inW (i := 1123) (by decide +kernel) rfl
set_option maxRecDepth 100000 in
theorem qw_1124 : (Jvm.Cond.static ({ cls := "FirstColourModel", name := "isByte", desc := "(I)Z" } : Jvm.MethodName)) ∈ qm_G := qm_inW (i := 1124) (by decide +kernel) rfl
set_option maxRecDepth 100000 in
theorem qw_1125 : (Jvm.Cond.code ({ cls := "FirstColourModel", name := "isByte", desc := "(I)Z" } : Jvm.MethodName) prog_11_method_15_code (1 : Nat) (Option.some Jvm.ClassFile.FieldType.boolean)) ∈ qm_G := qm_inW (i := 1125) (by decide +kernel) rfl
set_option maxRecDepth 100000 in
theorem qw_1135 : (Jvm.Cond.methodLink "FirstColourModel" (85 : Nat) ({ cls := "FirstColourModel", name := "isLot", desc := "(I)Z" } : Jvm.MethodName)) ∈ qm_G := qm_inW (i := 1135) (by decide +kernel) rfl
set_option maxRecDepth 100000 in
theorem qw_1137 : (Jvm.Cond.instanceMethod ({ cls := "FirstColourModel", name := "isLot", desc := "(I)Z" } : Jvm.MethodName)) ∈ qm_G := qm_inW (i := 1137) (by decide +kernel) rfl
set_option maxRecDepth 100000 in
theorem qw_1138 : (Jvm.Cond.code ({ cls := "FirstColourModel", name := "isLot", desc := "(I)Z" } : Jvm.MethodName) prog_11_method_5_code (2 : Nat) (Option.some Jvm.ClassFile.FieldType.boolean)) ∈ qm_G := qm_inW (i := 1138) (by decide +kernel) rfl
set_option maxRecDepth 100000 in
theorem qw_1139 : (Jvm.Cond.methodLink "FirstColourModel" (179 : Nat) ({ cls := "FirstColourModel", name := "asksOf", desc := "(IIII)I" } : Jvm.MethodName)) ∈ qm_G := qm_inW (i := 1139) (by decide +kernel) rfl
set_option maxRecDepth 100000 in
theorem qw_1141 : (Jvm.Cond.instanceMethod ({ cls := "FirstColourModel", name := "asksOf", desc := "(IIII)I" } : Jvm.MethodName)) ∈ qm_G := qm_inW (i := 1141) (by decide +kernel) rfl
set_option maxRecDepth 100000 in
theorem qw_1142 : (Jvm.Cond.code ({ cls := "FirstColourModel", name := "asksOf", desc := "(IIII)I" } : Jvm.MethodName) prog_11_method_31_code (6 : Nat) (Option.some Jvm.ClassFile.FieldType.int)) ∈ qm_G := qm_inW (i := 1142) (by decide +kernel) rfl
set_option maxRecDepth 100000 in
theorem qw_1143 : (Jvm.Cond.methodLink "FirstColourModel" (173 : Nat) ({ cls := "FirstColourModel", name := "says", desc := "(I)I" } : Jvm.MethodName)) ∈ qm_G := qm_inW (i := 1143) (by decide +kernel) rfl
set_option maxRecDepth 100000 in
theorem qw_1145 : (Jvm.Cond.instanceMethod ({ cls := "FirstColourModel", name := "says", desc := "(I)I" } : Jvm.MethodName)) ∈ qm_G := qm_inW (i := 1145) (by decide +kernel) rfl
set_option maxRecDepth 100000 in
theorem qw_1146 : (Jvm.Cond.code ({ cls := "FirstColourModel", name := "says", desc := "(I)I" } : Jvm.MethodName) prog_11_method_29_code (5 : Nat) (Option.some Jvm.ClassFile.FieldType.int)) ∈ qm_G := qm_inW (i := 1146) (by decide +kernel) rfl
set_option maxRecDepth 100000 in
theorem qw_1147 : (Jvm.Cond.methodLink "FirstColourModel" (169 : Nat) ({ cls := "FirstColourModel", name := "two", desc := "(III)I" } : Jvm.MethodName)) ∈ qm_G := qm_inW (i := 1147) (by decide +kernel) rfl
set_option maxRecDepth 100000 in
theorem qw_1148 : (Jvm.Cond.static ({ cls := "FirstColourModel", name := "two", desc := "(III)I" } : Jvm.MethodName)) ∈ qm_G := qm_inW (i := 1148) (by decide +kernel) rfl
set_option maxRecDepth 100000 in
theorem qw_1149 : (Jvm.Cond.code ({ cls := "FirstColourModel", name := "two", desc := "(III)I" } : Jvm.MethodName) prog_11_method_28_code (3 : Nat) (Option.some Jvm.ClassFile.FieldType.int)) ∈ qm_G := qm_inW (i := 1149) (by decide +kernel) rfl
set_option maxRecDepth 100000 in
theorem qw_1150 : (Jvm.Cond.methodLink "FirstColourModel" (176 : Nat) ({ cls := "FirstColourModel", name := "within", desc := "(III)I" } : Jvm.MethodName)) ∈ qm_G := qm_inW (i := 1150) (by decide +kernel) rfl
set_option maxRecDepth 100000 in
theorem qw_1151 : (Jvm.Cond.static ({ cls := "FirstColourModel", name := "within", desc := "(III)I" } : Jvm.MethodName)) ∈ qm_G := qm_inW (i := 1151) (by decide +kernel) rfl
set_option maxRecDepth 100000 in
theorem qw_1152 : (Jvm.Cond.code ({ cls := "FirstColourModel", name := "within", desc := "(III)I" } : Jvm.MethodName) prog_11_method_4_code (3 : Nat) (Option.some Jvm.ClassFile.FieldType.int)) ∈ qm_G := qm_inW (i := 1152) (by decide +kernel) rfl
set_option maxRecDepth 100000 in
theorem qw_1154 : (Jvm.Cond.instanceMethod ({ cls := "FirstColourModel", name := "lot", desc := "(III)I" } : Jvm.MethodName)) ∈ qm_G := qm_inW (i := 1154) (by decide +kernel) rfl
set_option maxRecDepth 100000 in
theorem qw_1155 : (Jvm.Cond.selects "FirstColourModel" ({ cls := "FirstColourModel", name := "lot", desc := "(III)I" } : Jvm.MethodName) ({ cls := "FirstColourModel", name := "lot", desc := "(III)I" } : Jvm.MethodName)) ∈ qm_G := qm_inW (i := 1155) (by decide +kernel) rfl
set_option maxRecDepth 100000 in
theorem qw_1156 : (Jvm.Cond.code ({ cls := "FirstColourModel", name := "lot", desc := "(III)I" } : Jvm.MethodName) prog_11_method_33_code (5 : Nat) (Option.some Jvm.ClassFile.FieldType.int)) ∈ qm_G := qm_inW (i := 1156) (by decide +kernel) rfl
set_option maxRecDepth 100000 in
theorem qw_1157 : (Jvm.Cond.methodLink "FirstColourModel" (183 : Nat) ({ cls := "FirstColourModel", name := "all", desc := "()I" } : Jvm.MethodName)) ∈ qm_G := qm_inW (i := 1157) (by decide +kernel) rfl
set_option maxRecDepth 100000 in
theorem qw_1159 : (Jvm.Cond.instanceMethod ({ cls := "FirstColourModel", name := "all", desc := "()I" } : Jvm.MethodName)) ∈ qm_G := qm_inW (i := 1159) (by decide +kernel) rfl
set_option maxRecDepth 100000 in
theorem qw_1160 : (Jvm.Cond.code ({ cls := "FirstColourModel", name := "all", desc := "()I" } : Jvm.MethodName) prog_11_method_11_code (1 : Nat) (Option.some Jvm.ClassFile.FieldType.int)) ∈ qm_G := qm_inW (i := 1160) (by decide +kernel) rfl
set_option maxRecDepth 100000 in
theorem qw_1169 : (Jvm.Cond.methodLink "FirstColourModel" (202 : Nat) ({ cls := "FirstColourModel", name := "wouldTake", desc := "(I)I" } : Jvm.MethodName)) ∈ qm_G := qm_inW (i := 1169) (by decide +kernel) rfl
set_option maxRecDepth 100000 in
theorem qw_1171 : (Jvm.Cond.instanceMethod ({ cls := "FirstColourModel", name := "wouldTake", desc := "(I)I" } : Jvm.MethodName)) ∈ qm_G := qm_inW (i := 1171) (by decide +kernel) rfl
set_option maxRecDepth 100000 in
theorem qw_1172 : (Jvm.Cond.code ({ cls := "FirstColourModel", name := "wouldTake", desc := "(I)I" } : Jvm.MethodName) prog_11_method_38_code (4 : Nat) (Option.some Jvm.ClassFile.FieldType.int)) ∈ qm_G := qm_inW (i := 1172) (by decide +kernel) rfl
set_option maxRecDepth 100000 in
theorem qw_1173 : (Jvm.Cond.methodLink "FirstColourModel" (190 : Nat) ({ cls := "FirstColourModel", name := "takenBeside", desc := "(I)I" } : Jvm.MethodName)) ∈ qm_G := qm_inW (i := 1173) (by decide +kernel) rfl
set_option maxRecDepth 100000 in
theorem qw_1175 : (Jvm.Cond.instanceMethod ({ cls := "FirstColourModel", name := "takenBeside", desc := "(I)I" } : Jvm.MethodName)) ∈ qm_G := qm_inW (i := 1175) (by decide +kernel) rfl
set_option maxRecDepth 100000 in
theorem qw_1176 : (Jvm.Cond.code ({ cls := "FirstColourModel", name := "takenBeside", desc := "(I)I" } : Jvm.MethodName) prog_11_method_35_code (4 : Nat) (Option.some Jvm.ClassFile.FieldType.int)) ∈ qm_G := qm_inW (i := 1176) (by decide +kernel) rfl
set_option maxRecDepth 100000 in
theorem qw_1177 : (Jvm.Cond.methodLink "FirstColourModel" (186 : Nat) ({ cls := "FirstColourModel", name := "areBeside", desc := "(II)Z" } : Jvm.MethodName)) ∈ qm_G := qm_inW (i := 1177) (by decide +kernel) rfl
set_option maxRecDepth 100000 in
theorem qw_1179 : (Jvm.Cond.instanceMethod ({ cls := "FirstColourModel", name := "areBeside", desc := "(II)Z" } : Jvm.MethodName)) ∈ qm_G := qm_inW (i := 1179) (by decide +kernel) rfl
set_option maxRecDepth 100000 in
theorem qw_1180 : (Jvm.Cond.code ({ cls := "FirstColourModel", name := "areBeside", desc := "(II)Z" } : Jvm.MethodName) prog_11_method_7_code (3 : Nat) (Option.some Jvm.ClassFile.FieldType.boolean)) ∈ qm_G := qm_inW (i := 1180) (by decide +kernel) rfl
set_option maxRecDepth 100000 in
theorem qw_1181 : (Jvm.Cond.methodLink "FirstColourModel" (193 : Nat) ({ cls := "FirstColourModel", name := "greatest", desc := "(I)I" } : Jvm.MethodName)) ∈ qm_G := qm_inW (i := 1181) (by decide +kernel) rfl
set_option maxRecDepth 100000 in
theorem qw_1182 : (Jvm.Cond.static ({ cls := "FirstColourModel", name := "greatest", desc := "(I)I" } : Jvm.MethodName)) ∈ qm_G := qm_inW (i := 1182) (by decide +kernel) rfl
set_option maxRecDepth 100000 in
theorem qw_1183 : (Jvm.Cond.code ({ cls := "FirstColourModel", name := "greatest", desc := "(I)I" } : Jvm.MethodName) prog_11_method_37_code (2 : Nat) (Option.some Jvm.ClassFile.FieldType.int)) ∈ qm_G := qm_inW (i := 1183) (by decide +kernel) rfl
set_option maxRecDepth 100000 in
theorem qw_1184 : (Jvm.Cond.methodLink "FirstColourModel" (196 : Nat) ({ cls := "FirstColourModel", name := "least", desc := "(I)I" } : Jvm.MethodName)) ∈ qm_G := qm_inW (i := 1184) (by decide +kernel) rfl
set_option maxRecDepth 100000 in
theorem qw_1185 : (Jvm.Cond.static ({ cls := "FirstColourModel", name := "least", desc := "(I)I" } : Jvm.MethodName)) ∈ qm_G := qm_inW (i := 1185) (by decide +kernel) rfl
set_option maxRecDepth 100000 in
theorem qw_1186 : (Jvm.Cond.code ({ cls := "FirstColourModel", name := "least", desc := "(I)I" } : Jvm.MethodName) prog_11_method_36_code (2 : Nat) (Option.some Jvm.ClassFile.FieldType.int)) ∈ qm_G := qm_inW (i := 1186) (by decide +kernel) rfl
set_option maxRecDepth 100000 in
theorem qw_1187 : (Jvm.Cond.methodLink "FirstColourModel" (205 : Nat) ({ cls := "FirstColourModel", name := "builds", desc := "(II)V" } : Jvm.MethodName)) ∈ qm_G := qm_inW (i := 1187) (by decide +kernel) rfl
set_option maxRecDepth 100000 in
theorem qw_1189 : (Jvm.Cond.instanceMethod ({ cls := "FirstColourModel", name := "builds", desc := "(II)V" } : Jvm.MethodName)) ∈ qm_G := qm_inW (i := 1189) (by decide +kernel) rfl
set_option maxRecDepth 100000 in
theorem qw_1190 : (Jvm.Cond.code ({ cls := "FirstColourModel", name := "builds", desc := "(II)V" } : Jvm.MethodName) prog_11_method_39_code (3 : Nat) (Option.none : Option Jvm.ClassFile.FieldType)) ∈ qm_G := qm_inW (i := 1190) (by decide +kernel) rfl
set_option maxRecDepth 100000 in
theorem qw_1207 : (Jvm.Cond.methodLink "FirstColourModel" (220 : Nat) ({ cls := "FirstColourModel", name := "areTwo", desc := "(II)Z" } : Jvm.MethodName)) ∈ qm_G := qm_inW (i := 1207) (by decide +kernel) rfl
set_option maxRecDepth 100000 in
theorem qw_1209 : (Jvm.Cond.instanceMethod ({ cls := "FirstColourModel", name := "areTwo", desc := "(II)Z" } : Jvm.MethodName)) ∈ qm_G := qm_inW (i := 1209) (by decide +kernel) rfl
set_option maxRecDepth 100000 in
theorem qw_1210 : (Jvm.Cond.code ({ cls := "FirstColourModel", name := "areTwo", desc := "(II)Z" } : Jvm.MethodName) prog_11_method_6_code (3 : Nat) (Option.some Jvm.ClassFile.FieldType.boolean)) ∈ qm_G := qm_inW (i := 1210) (by decide +kernel) rfl
set_option maxRecDepth 100000 in
theorem qw_1211 : (Jvm.Cond.methodLink "FirstColourModel" (223 : Nat) ({ cls := "FirstColourModel", name := "lanes", desc := "(II)I" } : Jvm.MethodName)) ∈ qm_G := qm_inW (i := 1211) (by decide +kernel) rfl
set_option maxRecDepth 100000 in
theorem qw_1213 : (Jvm.Cond.instanceMethod ({ cls := "FirstColourModel", name := "lanes", desc := "(II)I" } : Jvm.MethodName)) ∈ qm_G := qm_inW (i := 1213) (by decide +kernel) rfl
set_option maxRecDepth 100000 in
theorem qw_1214 : (Jvm.Cond.code ({ cls := "FirstColourModel", name := "lanes", desc := "(II)I" } : Jvm.MethodName) prog_11_method_49_code (5 : Nat) (Option.some Jvm.ClassFile.FieldType.int)) ∈ qm_G := qm_inW (i := 1214) (by decide +kernel) rfl
set_option maxRecDepth 100000 in
theorem qw_1215 : (Jvm.Cond.methodLink "FirstColourModel" (214 : Nat) ({ cls := "FirstColourModel", name := "movesOf", desc := "(II)I" } : Jvm.MethodName)) ∈ qm_G := qm_inW (i := 1215) (by decide +kernel) rfl
set_option maxRecDepth 100000 in
theorem qw_1217 : (Jvm.Cond.instanceMethod ({ cls := "FirstColourModel", name := "movesOf", desc := "(II)I" } : Jvm.MethodName)) ∈ qm_G := qm_inW (i := 1217) (by decide +kernel) rfl
set_option maxRecDepth 100000 in
theorem qw_1218 : (Jvm.Cond.code ({ cls := "FirstColourModel", name := "movesOf", desc := "(II)I" } : Jvm.MethodName) prog_11_method_47_code (4 : Nat) (Option.some Jvm.ClassFile.FieldType.int)) ∈ qm_G := qm_inW (i := 1218) (by decide +kernel) rfl
set_option maxRecDepth 100000 in
theorem qw_1219 : (Jvm.Cond.methodLink "FirstColourModel" (211 : Nat) ({ cls := "FirstColourModel", name := "younger", desc := "(II)I" } : Jvm.MethodName)) ∈ qm_G := qm_inW (i := 1219) (by decide +kernel) rfl
set_option maxRecDepth 100000 in
theorem qw_1221 : (Jvm.Cond.instanceMethod ({ cls := "FirstColourModel", name := "younger", desc := "(II)I" } : Jvm.MethodName)) ∈ qm_G := qm_inW (i := 1221) (by decide +kernel) rfl
set_option maxRecDepth 100000 in
theorem qw_1222 : (Jvm.Cond.code ({ cls := "FirstColourModel", name := "younger", desc := "(II)I" } : Jvm.MethodName) prog_11_method_46_code (3 : Nat) (Option.some Jvm.ClassFile.FieldType.int)) ∈ qm_G := qm_inW (i := 1222) (by decide +kernel) rfl
set_option maxRecDepth 100000 in
theorem qw_1223 : (Jvm.Cond.methodLink "FirstColourModel" (217 : Nat) ({ cls := "FirstColourModel", name := "nextMoves", desc := "(I)I" } : Jvm.MethodName)) ∈ qm_G := qm_inW (i := 1223) (by decide +kernel) rfl
set_option maxRecDepth 100000 in
theorem qw_1225 : (Jvm.Cond.instanceMethod ({ cls := "FirstColourModel", name := "nextMoves", desc := "(I)I" } : Jvm.MethodName)) ∈ qm_G := qm_inW (i := 1225) (by decide +kernel) rfl
set_option maxRecDepth 100000 in
theorem qw_1226 : (Jvm.Cond.code ({ cls := "FirstColourModel", name := "nextMoves", desc := "(I)I" } : Jvm.MethodName) prog_11_method_48_code (4 : Nat) (Option.some Jvm.ClassFile.FieldType.int)) ∈ qm_G := qm_inW (i := 1226) (by decide +kernel) rfl
set_option maxRecDepth 100000 in
theorem qw_1235 : (Jvm.Cond.methodLink "FirstColourModel" (232 : Nat) ({ cls := "FirstColourModel", name := "lanesThought", desc := "(II)I" } : Jvm.MethodName)) ∈ qm_G := qm_inW (i := 1235) (by decide +kernel) rfl
set_option maxRecDepth 100000 in
theorem qw_1237 : (Jvm.Cond.instanceMethod ({ cls := "FirstColourModel", name := "lanesThought", desc := "(II)I" } : Jvm.MethodName)) ∈ qm_G := qm_inW (i := 1237) (by decide +kernel) rfl
set_option maxRecDepth 100000 in
theorem qw_1238 : (Jvm.Cond.code ({ cls := "FirstColourModel", name := "lanesThought", desc := "(II)I" } : Jvm.MethodName) prog_11_method_52_code (4 : Nat) (Option.some Jvm.ClassFile.FieldType.int)) ∈ qm_G := qm_inW (i := 1238) (by decide +kernel) rfl
set_option maxRecDepth 100000 in
theorem qw_1239 : (Jvm.Cond.methodLink "FirstColourModel" (226 : Nat) ({ cls := "FirstColourModel", name := "keeps", desc := "()V" } : Jvm.MethodName)) ∈ qm_G := qm_inW (i := 1239) (by decide +kernel) rfl
set_option maxRecDepth 100000 in
theorem qw_1241 : (Jvm.Cond.instanceMethod ({ cls := "FirstColourModel", name := "keeps", desc := "()V" } : Jvm.MethodName)) ∈ qm_G := qm_inW (i := 1241) (by decide +kernel) rfl
set_option maxRecDepth 100000 in
theorem qw_1242 : (Jvm.Cond.code ({ cls := "FirstColourModel", name := "keeps", desc := "()V" } : Jvm.MethodName) prog_11_method_44_code (2 : Nat) (Option.none : Option Jvm.ClassFile.FieldType)) ∈ qm_G := qm_inW (i := 1242) (by decide +kernel) rfl
set_option maxRecDepth 100000 in
theorem qw_1243 : (Jvm.Cond.methodLink "FirstColourModel" (229 : Nat) ({ cls := "FirstColourModel", name := "laysBack", desc := "()V" } : Jvm.MethodName)) ∈ qm_G := qm_inW (i := 1243) (by decide +kernel) rfl
set_option maxRecDepth 100000 in
theorem qw_1245 : (Jvm.Cond.instanceMethod ({ cls := "FirstColourModel", name := "laysBack", desc := "()V" } : Jvm.MethodName)) ∈ qm_G := qm_inW (i := 1245) (by decide +kernel) rfl
set_option maxRecDepth 100000 in
theorem qw_1246 : (Jvm.Cond.code ({ cls := "FirstColourModel", name := "laysBack", desc := "()V" } : Jvm.MethodName) prog_11_method_45_code (2 : Nat) (Option.none : Option Jvm.ClassFile.FieldType)) ∈ qm_G := qm_inW (i := 1246) (by decide +kernel) rfl
set_option maxRecDepth 100000 in
theorem qw_1251 : (Jvm.Cond.methodLink "FirstColourModel" (244 : Nat) ({ cls := "FirstColourModel", name := "notBuilt", desc := "()I" } : Jvm.MethodName)) ∈ qm_G := qm_inW (i := 1251) (by decide +kernel) rfl
set_option maxRecDepth 100000 in
theorem qw_1253 : (Jvm.Cond.instanceMethod ({ cls := "FirstColourModel", name := "notBuilt", desc := "()I" } : Jvm.MethodName)) ∈ qm_G := qm_inW (i := 1253) (by decide +kernel) rfl
set_option maxRecDepth 100000 in
theorem qw_1254 : (Jvm.Cond.code ({ cls := "FirstColourModel", name := "notBuilt", desc := "()I" } : Jvm.MethodName) prog_11_method_60_code (1 : Nat) (Option.some Jvm.ClassFile.FieldType.int)) ∈ qm_G := qm_inW (i := 1254) (by decide +kernel) rfl
set_option maxRecDepth 100000 in
theorem qw_1255 : (Jvm.Cond.methodLink "FirstColourModel" (247 : Nat) ({ cls := "FirstColourModel", name := "begins", desc := "(I)V" } : Jvm.MethodName)) ∈ qm_G := qm_inW (i := 1255) (by decide +kernel) rfl
set_option maxRecDepth 100000 in
theorem qw_1257 : (Jvm.Cond.instanceMethod ({ cls := "FirstColourModel", name := "begins", desc := "(I)V" } : Jvm.MethodName)) ∈ qm_G := qm_inW (i := 1257) (by decide +kernel) rfl
set_option maxRecDepth 100000 in
theorem qw_1258 : (Jvm.Cond.code ({ cls := "FirstColourModel", name := "begins", desc := "(I)V" } : Jvm.MethodName) prog_11_method_54_code (3 : Nat) (Option.none : Option Jvm.ClassFile.FieldType)) ∈ qm_G := qm_inW (i := 1258) (by decide +kernel) rfl
set_option maxRecDepth 100000 in
theorem qw_1259 : (Jvm.Cond.methodLink "FirstColourModel" (250 : Nat) ({ cls := "FirstColourModel", name := "manyByRow", desc := "()I" } : Jvm.MethodName)) ∈ qm_G := qm_inW (i := 1259) (by decide +kernel) rfl
set_option maxRecDepth 100000 in
theorem qw_1261 : (Jvm.Cond.instanceMethod ({ cls := "FirstColourModel", name := "manyByRow", desc := "()I" } : Jvm.MethodName)) ∈ qm_G := qm_inW (i := 1261) (by decide +kernel) rfl
set_option maxRecDepth 100000 in
theorem qw_1262 : (Jvm.Cond.code ({ cls := "FirstColourModel", name := "manyByRow", desc := "()I" } : Jvm.MethodName) prog_11_method_59_code (2 : Nat) (Option.some Jvm.ClassFile.FieldType.int)) ∈ qm_G := qm_inW (i := 1262) (by decide +kernel) rfl
set_option maxRecDepth 100000 in
theorem qw_1263 : (Jvm.Cond.methodLink "FirstColourModel" (241 : Nat) ({ cls := "FirstColourModel", name := "buildsRow", desc := "(I)V" } : Jvm.MethodName)) ∈ qm_G := qm_inW (i := 1263) (by decide +kernel) rfl
set_option maxRecDepth 100000 in
theorem qw_1265 : (Jvm.Cond.instanceMethod ({ cls := "FirstColourModel", name := "buildsRow", desc := "(I)V" } : Jvm.MethodName)) ∈ qm_G := qm_inW (i := 1265) (by decide +kernel) rfl
set_option maxRecDepth 100000 in
theorem qw_1266 : (Jvm.Cond.code ({ cls := "FirstColourModel", name := "buildsRow", desc := "(I)V" } : Jvm.MethodName) prog_11_method_58_code (3 : Nat) (Option.none : Option Jvm.ClassFile.FieldType)) ∈ qm_G := qm_inW (i := 1266) (by decide +kernel) rfl
set_option maxRecDepth 100000 in
theorem qw_1267 : (Jvm.Cond.methodLink "FirstColourModel" (253 : Nat) ({ cls := "FirstColourModel", name := "rowDigits", desc := "()I" } : Jvm.MethodName)) ∈ qm_G := qm_inW (i := 1267) (by decide +kernel) rfl
set_option maxRecDepth 100000 in
theorem qw_1269 : (Jvm.Cond.instanceMethod ({ cls := "FirstColourModel", name := "rowDigits", desc := "()I" } : Jvm.MethodName)) ∈ qm_G := qm_inW (i := 1269) (by decide +kernel) rfl
set_option maxRecDepth 100000 in
theorem qw_1270 : (Jvm.Cond.code ({ cls := "FirstColourModel", name := "rowDigits", desc := "()I" } : Jvm.MethodName) prog_11_method_57_code (3 : Nat) (Option.some Jvm.ClassFile.FieldType.int)) ∈ qm_G := qm_inW (i := 1270) (by decide +kernel) rfl
set_option maxRecDepth 100000 in
theorem qw_1271 : (Jvm.Cond.methodLink "FirstColourModel" (256 : Nat) ({ cls := "FirstColourModel", name := "nextRow", desc := "()Z" } : Jvm.MethodName)) ∈ qm_G := qm_inW (i := 1271) (by decide +kernel) rfl
set_option maxRecDepth 100000 in
theorem qw_1273 : (Jvm.Cond.instanceMethod ({ cls := "FirstColourModel", name := "nextRow", desc := "()Z" } : Jvm.MethodName)) ∈ qm_G := qm_inW (i := 1273) (by decide +kernel) rfl
set_option maxRecDepth 100000 in
theorem qw_1274 : (Jvm.Cond.code ({ cls := "FirstColourModel", name := "nextRow", desc := "()Z" } : Jvm.MethodName) prog_11_method_55_code (5 : Nat) (Option.some Jvm.ClassFile.FieldType.boolean)) ∈ qm_G := qm_inW (i := 1274) (by decide +kernel) rfl
set_option maxRecDepth 100000 in
theorem qw_1275 : (Jvm.Cond.methodLink "FirstColourModel" (238 : Nat) ({ cls := "FirstColourModel", name := "swapsRow", desc := "(II)V" } : Jvm.MethodName)) ∈ qm_G := qm_inW (i := 1275) (by decide +kernel) rfl
set_option maxRecDepth 100000 in
theorem qw_1277 : (Jvm.Cond.instanceMethod ({ cls := "FirstColourModel", name := "swapsRow", desc := "(II)V" } : Jvm.MethodName)) ∈ qm_G := qm_inW (i := 1277) (by decide +kernel) rfl
set_option maxRecDepth 100000 in
theorem qw_1278 : (Jvm.Cond.code ({ cls := "FirstColourModel", name := "swapsRow", desc := "(II)V" } : Jvm.MethodName) prog_11_method_56_code (4 : Nat) (Option.none : Option Jvm.ClassFile.FieldType)) ∈ qm_G := qm_inW (i := 1278) (by decide +kernel) rfl
set_option maxRecDepth 100000 in
theorem qw_1283 : (Jvm.Cond.methodLink "FirstColourModel" (259 : Nat) ({ cls := "FirstColourModel", name := "canPaint", desc := "(II)Z" } : Jvm.MethodName)) ∈ qm_G := qm_inW (i := 1283) (by decide +kernel) rfl
set_option maxRecDepth 100000 in
theorem qw_1285 : (Jvm.Cond.instanceMethod ({ cls := "FirstColourModel", name := "canPaint", desc := "(II)Z" } : Jvm.MethodName)) ∈ qm_G := qm_inW (i := 1285) (by decide +kernel) rfl
set_option maxRecDepth 100000 in
theorem qw_1286 : (Jvm.Cond.code ({ cls := "FirstColourModel", name := "canPaint", desc := "(II)Z" } : Jvm.MethodName) prog_11_method_62_code (6 : Nat) (Option.some Jvm.ClassFile.FieldType.boolean)) ∈ qm_G := qm_inW (i := 1286) (by decide +kernel) rfl
set_option maxRecDepth 100000 in
theorem qw_1291 : (Jvm.Cond.methodLink "FirstColourModel" (262 : Nat) ({ cls := "FirstColourModel", name := "readsRow", desc := "(II)I" } : Jvm.MethodName)) ∈ qm_G := qm_inW (i := 1291) (by decide +kernel) rfl
set_option maxRecDepth 100000 in
theorem qw_1293 : (Jvm.Cond.instanceMethod ({ cls := "FirstColourModel", name := "readsRow", desc := "(II)I" } : Jvm.MethodName)) ∈ qm_G := qm_inW (i := 1293) (by decide +kernel) rfl
set_option maxRecDepth 100000 in
theorem qw_1294 : (Jvm.Cond.code ({ cls := "FirstColourModel", name := "readsRow", desc := "(II)I" } : Jvm.MethodName) prog_11_method_64_code (6 : Nat) (Option.some Jvm.ClassFile.FieldType.int)) ∈ qm_G := qm_inW (i := 1294) (by decide +kernel) rfl
set_option maxRecDepth 100000 in
theorem qw_1303 : (Jvm.Cond.methodLink "FirstColourModel" (265 : Nat) ({ cls := "FirstColourModel", name := "worthBehind", desc := "(II)I" } : Jvm.MethodName)) ∈ qm_G := qm_inW (i := 1303) (by decide +kernel) rfl
set_option maxRecDepth 100000 in
theorem qw_1305 : (Jvm.Cond.instanceMethod ({ cls := "FirstColourModel", name := "worthBehind", desc := "(II)I" } : Jvm.MethodName)) ∈ qm_G := qm_inW (i := 1305) (by decide +kernel) rfl
set_option maxRecDepth 100000 in
theorem qw_1306 : (Jvm.Cond.code ({ cls := "FirstColourModel", name := "worthBehind", desc := "(II)I" } : Jvm.MethodName) prog_11_method_67_code (4 : Nat) (Option.some Jvm.ClassFile.FieldType.int)) ∈ qm_G := qm_inW (i := 1306) (by decide +kernel) rfl
set_option maxRecDepth 100000 in
theorem qw_1311 : (Jvm.Cond.methodLink "FirstColourModel" (268 : Nat) ({ cls := "FirstColourModel", name := "sortsRow", desc := "(I)V" } : Jvm.MethodName)) ∈ qm_G := qm_inW (i := 1311) (by decide +kernel) rfl
set_option maxRecDepth 100000 in
theorem qw_1313 : (Jvm.Cond.instanceMethod ({ cls := "FirstColourModel", name := "sortsRow", desc := "(I)V" } : Jvm.MethodName)) ∈ qm_G := qm_inW (i := 1313) (by decide +kernel) rfl
set_option maxRecDepth 100000 in
theorem qw_1314 : (Jvm.Cond.code ({ cls := "FirstColourModel", name := "sortsRow", desc := "(I)V" } : Jvm.MethodName) prog_11_method_69_code (6 : Nat) (Option.none : Option Jvm.ClassFile.FieldType)) ∈ qm_G := qm_inW (i := 1314) (by decide +kernel) rfl
set_option maxRecDepth 100000 in
theorem qw_1319 : (Jvm.Cond.constant "FirstColourModel" (274 : Nat) (-100000 : Int32)) ∈ qm_G := qm_inW (i := 1319) (by decide +kernel) rfl
set_option maxRecDepth 100000 in
theorem qw_1320 : (Jvm.Cond.methodLink "FirstColourModel" (275 : Nat) ({ cls := "FirstColourModel", name := "worthInRow", desc := "(I)I" } : Jvm.MethodName)) ∈ qm_G := qm_inW (i := 1320) (by decide +kernel) rfl
set_option maxRecDepth 100000 in
theorem qw_1322 : (Jvm.Cond.instanceMethod ({ cls := "FirstColourModel", name := "worthInRow", desc := "(I)I" } : Jvm.MethodName)) ∈ qm_G := qm_inW (i := 1322) (by decide +kernel) rfl
set_option maxRecDepth 100000 in
theorem qw_1323 : (Jvm.Cond.code ({ cls := "FirstColourModel", name := "worthInRow", desc := "(I)I" } : Jvm.MethodName) prog_11_method_72_code (4 : Nat) (Option.some Jvm.ClassFile.FieldType.int)) ∈ qm_G := qm_inW (i := 1323) (by decide +kernel) rfl
set_option maxRecDepth 100000 in
theorem qw_1324 : (Jvm.Cond.methodLink "FirstColourModel" (271 : Nat) ({ cls := "FirstColourModel", name := "placeOf", desc := "(I)I" } : Jvm.MethodName)) ∈ qm_G := qm_inW (i := 1324) (by decide +kernel) rfl
set_option maxRecDepth 100000 in
theorem qw_1326 : (Jvm.Cond.instanceMethod ({ cls := "FirstColourModel", name := "placeOf", desc := "(I)I" } : Jvm.MethodName)) ∈ qm_G := qm_inW (i := 1326) (by decide +kernel) rfl
set_option maxRecDepth 100000 in
theorem qw_1327 : (Jvm.Cond.code ({ cls := "FirstColourModel", name := "placeOf", desc := "(I)I" } : Jvm.MethodName) prog_11_method_71_code (3 : Nat) (Option.some Jvm.ClassFile.FieldType.int)) ∈ qm_G := qm_inW (i := 1327) (by decide +kernel) rfl
set_option maxRecDepth 100000 in
theorem qw_1332 : (Jvm.Cond.methodLink "FirstColourModel" (284 : Nat) ({ cls := "FirstColourModel", name := "fittingRows", desc := "(I)I" } : Jvm.MethodName)) ∈ qm_G := qm_inW (i := 1332) (by decide +kernel) rfl
set_option maxRecDepth 100000 in
theorem qw_1334 : (Jvm.Cond.instanceMethod ({ cls := "FirstColourModel", name := "fittingRows", desc := "(I)I" } : Jvm.MethodName)) ∈ qm_G := qm_inW (i := 1334) (by decide +kernel) rfl
set_option maxRecDepth 100000 in
theorem qw_1335 : (Jvm.Cond.code ({ cls := "FirstColourModel", name := "fittingRows", desc := "(I)I" } : Jvm.MethodName) prog_11_method_75_code (4 : Nat) (Option.some Jvm.ClassFile.FieldType.int)) ∈ qm_G := qm_inW (i := 1335) (by decide +kernel) rfl
set_option maxRecDepth 100000 in
theorem qw_1336 : (Jvm.Cond.methodLink "FirstColourModel" (281 : Nat) ({ cls := "FirstColourModel", name := "fitsRow", desc := "(I)Z" } : Jvm.MethodName)) ∈ qm_G := qm_inW (i := 1336) (by decide +kernel) rfl
set_option maxRecDepth 100000 in
theorem qw_1338 : (Jvm.Cond.instanceMethod ({ cls := "FirstColourModel", name := "fitsRow", desc := "(I)Z" } : Jvm.MethodName)) ∈ qm_G := qm_inW (i := 1338) (by decide +kernel) rfl
set_option maxRecDepth 100000 in
theorem qw_1339 : (Jvm.Cond.code ({ cls := "FirstColourModel", name := "fitsRow", desc := "(I)Z" } : Jvm.MethodName) prog_11_method_74_code (4 : Nat) (Option.some Jvm.ClassFile.FieldType.boolean)) ∈ qm_G := qm_inW (i := 1339) (by decide +kernel) rfl
set_option maxRecDepth 100000 in
theorem qw_1348 : (Jvm.Cond.methodLink "FirstColourModel" (287 : Nat) ({ cls := "FirstColourModel", name := "sheetWrong", desc := "(I)I" } : Jvm.MethodName)) ∈ qm_G := qm_inW (i := 1348) (by decide +kernel) rfl
set_option maxRecDepth 100000 in
theorem qw_1350 : (Jvm.Cond.instanceMethod ({ cls := "FirstColourModel", name := "sheetWrong", desc := "(I)I" } : Jvm.MethodName)) ∈ qm_G := qm_inW (i := 1350) (by decide +kernel) rfl
set_option maxRecDepth 100000 in
theorem qw_1351 : (Jvm.Cond.code ({ cls := "FirstColourModel", name := "sheetWrong", desc := "(I)I" } : Jvm.MethodName) prog_11_method_78_code (2 : Nat) (Option.some Jvm.ClassFile.FieldType.int)) ∈ qm_G := qm_inW (i := 1351) (by decide +kernel) rfl
set_option maxRecDepth 100000 in
theorem qw_1352 : (Jvm.Cond.methodLink "FirstColourModel" (290 : Nat) ({ cls := "FirstColourModel", name := "unlike", desc := "(I)I" } : Jvm.MethodName)) ∈ qm_G := qm_inW (i := 1352) (by decide +kernel) rfl
set_option maxRecDepth 100000 in
theorem qw_1354 : (Jvm.Cond.instanceMethod ({ cls := "FirstColourModel", name := "unlike", desc := "(I)I" } : Jvm.MethodName)) ∈ qm_G := qm_inW (i := 1354) (by decide +kernel) rfl
set_option maxRecDepth 100000 in
theorem qw_1355 : (Jvm.Cond.code ({ cls := "FirstColourModel", name := "unlike", desc := "(I)I" } : Jvm.MethodName) prog_11_method_79_code (3 : Nat) (Option.some Jvm.ClassFile.FieldType.int)) ∈ qm_G := qm_inW (i := 1355) (by decide +kernel) rfl
set_option maxRecDepth 100000 in
theorem qw_1360 : (Jvm.Cond.methodLink "FirstColourModel" (293 : Nat) ({ cls := "FirstColourModel", name := "isSoByRow", desc := "(I)Z" } : Jvm.MethodName)) ∈ qm_G := qm_inW (i := 1360) (by decide +kernel) rfl
set_option maxRecDepth 100000 in
theorem qw_1362 : (Jvm.Cond.instanceMethod ({ cls := "FirstColourModel", name := "isSoByRow", desc := "(I)Z" } : Jvm.MethodName)) ∈ qm_G := qm_inW (i := 1362) (by decide +kernel) rfl
set_option maxRecDepth 100000 in
theorem qw_1363 : (Jvm.Cond.code ({ cls := "FirstColourModel", name := "isSoByRow", desc := "(I)Z" } : Jvm.MethodName) prog_11_method_81_code (3 : Nat) (Option.some Jvm.ClassFile.FieldType.boolean)) ∈ qm_G := qm_inW (i := 1363) (by decide +kernel) rfl
set_option maxRecDepth 100000 in
theorem qw_1376 : (Jvm.Cond.constant "FirstColourModel" (300 : Nat) (99999 : Int32)) ∈ qm_G := qm_inW (i := 1376) (by decide +kernel) rfl
set_option maxRecDepth 100000 in
theorem qw_1377 : (Jvm.Cond.methodLink "FirstColourModel" (301 : Nat) ({ cls := "FirstColourModel", name := "manyBy", desc := "(I)I" } : Jvm.MethodName)) ∈ qm_G := qm_inW (i := 1377) (by decide +kernel) rfl
set_option maxRecDepth 100000 in
theorem qw_1379 : (Jvm.Cond.instanceMethod ({ cls := "FirstColourModel", name := "manyBy", desc := "(I)I" } : Jvm.MethodName)) ∈ qm_G := qm_inW (i := 1379) (by decide +kernel) rfl
set_option maxRecDepth 100000 in
theorem qw_1380 : (Jvm.Cond.code ({ cls := "FirstColourModel", name := "manyBy", desc := "(I)I" } : Jvm.MethodName) prog_11_method_85_code (5 : Nat) (Option.some Jvm.ClassFile.FieldType.int)) ∈ qm_G := qm_inW (i := 1380) (by decide +kernel) rfl
set_option maxRecDepth 100000 in
theorem qw_1381 : (Jvm.Cond.constantLong "FirstColourModel" (296 : Nat) (48271 : Int64)) ∈ qm_G := qm_inW (i := 1381) (by decide +kernel) rfl
set_option maxRecDepth 100000 in
theorem qw_1382 : (Jvm.Cond.constantLong "FirstColourModel" (298 : Nat) (2147483647 : Int64)) ∈ qm_G := qm_inW (i := 1382) (by decide +kernel) rfl
set_option maxRecDepth 100000 in
theorem qw_1387 : (Jvm.Cond.constantLong "FirstColourModel" (304 : Nat) (-4611686018427387904 : Int64)) ∈ qm_G := qm_inW (i := 1387) (by decide +kernel) rfl
set_option maxRecDepth 100000 in
theorem qw_1388 : (Jvm.Cond.methodLink "FirstColourModel" (306 : Nat) ({ cls := "FirstColourModel", name := "lowest", desc := "(JJI)J" } : Jvm.MethodName)) ∈ qm_G := qm_inW (i := 1388) (by decide +kernel) rfl
set_option maxRecDepth 100000 in
theorem qw_1389 : (Jvm.Cond.static ({ cls := "FirstColourModel", name := "lowest", desc := "(JJI)J" } : Jvm.MethodName)) ∈ qm_G := qm_inW (i := 1389) (by decide +kernel) rfl
set_option maxRecDepth 100000 in
theorem qw_1390 : (Jvm.Cond.code ({ cls := "FirstColourModel", name := "lowest", desc := "(JJI)J" } : Jvm.MethodName) prog_11_method_87_code (11 : Nat) (Option.some Jvm.ClassFile.FieldType.long)) ∈ qm_G := qm_inW (i := 1390) (by decide +kernel) rfl
set_option maxRecDepth 100000 in
theorem qw_1415 : (Jvm.Cond.methodLink "FirstColourModel" (323 : Nat) ({ cls := "FirstColourModel", name := "lot", desc := "(III)I" } : Jvm.MethodName)) ∈ qm_G := qm_inW (i := 1415) (by decide +kernel) rfl
set_option maxRecDepth 100000 in
theorem qw_1420 : (Jvm.Cond.methodLink "FirstColourModel" (326 : Nat) ({ cls := "FirstColourModel", name := "isUnder", desc := "(II)Z" } : Jvm.MethodName)) ∈ qm_G := qm_inW (i := 1420) (by decide +kernel) rfl
set_option maxRecDepth 100000 in
theorem qw_1421 : (Jvm.Cond.static ({ cls := "FirstColourModel", name := "isUnder", desc := "(II)Z" } : Jvm.MethodName)) ∈ qm_G := qm_inW (i := 1421) (by decide +kernel) rfl
set_option maxRecDepth 100000 in
theorem qw_1422 : (Jvm.Cond.code ({ cls := "FirstColourModel", name := "isUnder", desc := "(II)Z" } : Jvm.MethodName) prog_11_method_95_code (2 : Nat) (Option.some Jvm.ClassFile.FieldType.boolean)) ∈ qm_G := qm_inW (i := 1422) (by decide +kernel) rfl
